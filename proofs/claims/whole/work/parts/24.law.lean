/-! the law's own level: the class's state, the reference's, the law's row, how many exceptions -/
abbrev lawS : Type := amS × amS × (Nat → Int64) × Nat
abbrev lawQ : Type := Option (amO × lawS)
def wl : lawS → Nat → amW := fun s _ => cw s.1 s.2.1 s.2.2.1 s.2.2.2
def sU (s : lawS) (k : Nat) (x : Int64) : lawS := (s.1, s.2.1, vp_updL s.2.2.1 k x, s.2.2.2)
def lfC (s : lawS) (r : amQ) : lawQ := r.map fun q => (q.1, (q.2, s.2.1, s.2.2.1, s.2.2.2 + az_ex q.1))
def lfM (s : lawS) (r : amQ) : lawQ := r.map fun q => (q.1, (s.1, q.2, s.2.2.1, s.2.2.2 + az_ex q.1))
def az_tI1 (r : lawQ) (k : Int32 → lawS → lawQ) (h0 : lawS → lawQ) : lawQ := match r with
  | some (.inl (some (.int x)), S) => k x S
  | some (.inr x, S) => if x = 0 then h0 S else none
  | _ => none
def az_tO1 (r : lawQ) (k : Int32 → lawS → lawQ) (h0 : lawS → lawQ) : lawQ := match r with
  | some (.inl (some (.int x)), S) => k x S
  | some (.inr x, S) => if x = 2 then h0 S else none
  | _ => none
def az_tV1 (r : lawQ) (k : lawS → lawQ) (h0 : lawS → lawQ) : lawQ := match r with
  | some (.inl none, S) => k S
  | some (.inr x, S) => if x = 0 then h0 S else none
  | _ => none
def az_tI2 (r : lawQ) (k : Int32 → lawS → lawQ) (h0 h1 : lawS → lawQ) : lawQ := match r with
  | some (.inl (some (.int x)), S) => k x S
  | some (.inr x, S) => if x = 0 then h0 S else if x = 1 then h1 S else none
  | _ => none
section LAWR
variable {X : amX} {d j : Nat} {as : List Value} {s : lawS} {r : amQ} {e : Nat}
theorem cw_lfC (h : CW X d j as (wc s.2.1 s.2.2.1) s.1 r) : CW X d j as wl s (lfC s r) := by
  intro e o T hT
  unfold lfC at hT
  rw [Option.map_eq_some_iff] at hT
  obtain ⟨⟨o1, T1⟩, h1, h2⟩ := hT
  cases h2
  exact h s.2.2.2 o1 T1 h1
theorem cw_lfM (h : CW X d j as (wm s.1 s.2.2.1) s.2.1 r) : CW X d j as wl s (lfM s r) := by
  intro e o T hT
  unfold lfM at hT
  rw [Option.map_eq_some_iff] at hT
  obtain ⟨⟨o1, T1⟩, h1, h2⟩ := hT
  cases h2
  exact h s.2.2.2 o1 T1 h1
theorem ai_2000 : am_ai X (wl s e) 2000 = some (X.1, X.2) := rfl
theorem al_2000 : am_len X (wl s e) 2000 = some X.1 := rfl
theorem ar_67 : (wl s e).1[67]? = some (.inr (.inl (1, s.2.2.1))) := rfl
theorem as_67 (k : Nat) (x : Int64) : ((wl s e).1.set 67 (.inr (.inl (1, vp_updL s.2.2.1 k x))), (wl s e).2) = wl (sU s k x) e := rfl
variable {M : amM} {pc ix : Nat} {lv : List (Nat × Value)} {st rest : List Value} {ins : Instr} {R' : lawQ}
/-- a call within a handler's reach -/
theorem aw_try {R : lawQ} (hat : am_at M pc = some (ins, 3, ix)) (hinv : am_inv ins (wl s e) st = some (j, as, rest)) (hc : CW X d j as wl s R') (hns : ∀ i, ins ≠ .invokespecial i)
    (hR : ∀ o T, R = some (o, T) → ∃ o1 S1, R' = some (o1, S1) ∧ ((∃ v, o1 = .inl v ∧ AW X d M wl e (pc + 3) lv (v.toList ++ rest) S1 R) ∨ (∃ x h k ln ix', o1 = .inr x ∧ am_hnd M pc x = some h ∧ am_at M h = some (.astore k, ln, ix') ∧ k < am_mL M ∧ AW X d M wl e (h + ln) [] [] S1 R))) : AW X d M wl e pc lv st s R := by
  intro o T h lv' hl
  obtain ⟨o1, S1, h1, h2⟩ := hR o T h
  have h3 := hc e o1 S1 h1
  rcases h2 with ⟨v, rfl, h4⟩ | ⟨x, hh, k, ln, ix', rfl, g1, g2, g3, g4⟩
  · obtain ⟨n, h5⟩ := h4 o T h lv' hl
    exact ⟨n + 1, ins, 3, ix, hat, Or.inr (Or.inr (Or.inl ⟨j, as, rest, v, _, hinv, h3, h5⟩))⟩
  · obtain ⟨n, h5⟩ := g4 o T h ((am_st1 lv' k .null).drop 1) al_nil
    exact ⟨n + 1, ins, 3, ix, hat, Or.inr (Or.inr (Or.inr (Or.inr (Or.inl ⟨j, as, rest, x, _, hh, k, ln, ix', hinv, h3, hns, g1, g2, g3, h5⟩))))⟩
theorem aw_tI2 {K : Int32 → lawS → lawQ} {h0 h1 : lawS → lawQ} {p0 k0 n0 i0 p1 k1 n1 i1 : Nat} (hat : am_at M pc = some (ins, 3, ix)) (hinv : am_inv ins (wl s e) st = some (j, as, rest)) (hc : CW X d j as wl s R') (hns : ∀ i, ins ≠ .invokespecial i)
    (a1 : am_hnd M pc 0 = some p0) (a2 : am_at M p0 = some (.astore k0, n0, i0)) (a3 : k0 < am_mL M) (b1 : am_hnd M pc 1 = some p1) (b2 : am_at M p1 = some (.astore k1, n1, i1)) (b3 : k1 < am_mL M)
    (k : ∀ x S1, AW X d M wl e (pc + 3) lv (.int x :: rest) S1 (K x S1)) (g0 : ∀ S1, AW X d M wl e (p0 + n0) [] [] S1 (h0 S1)) (g1 : ∀ S1, AW X d M wl e (p1 + n1) [] [] S1 (h1 S1)) : AW X d M wl e pc lv st s (az_tI2 R' K h0 h1) := by
  refine aw_try hat hinv hc hns (fun o T h => ?_)
  unfold az_tI2 at h ⊢
  split at h
  · next x S1 => exact ⟨_, S1, rfl, Or.inl ⟨some (.int x), rfl, k x S1⟩⟩
  · next x S1 =>
    by_cases hx : x = 0
    · rw [if_pos hx] at h
      refine ⟨_, S1, rfl, Or.inr ⟨x, p0, k0, n0, i0, rfl, by rw [hx]; exact a1, a2, a3, ?_⟩⟩
      simp only [if_pos hx]; exact g0 S1
    · rw [if_neg hx] at h
      by_cases hx1 : x = 1
      · rw [if_pos hx1] at h
        refine ⟨_, S1, rfl, Or.inr ⟨x, p1, k1, n1, i1, rfl, by rw [hx1]; exact b1, b2, b3, ?_⟩⟩
        simp only [if_neg hx, if_pos hx1]; exact g1 S1
      · rw [if_neg hx1] at h; cases h
  · cases h
theorem aw_tI1 {K : Int32 → lawS → lawQ} {h0 : lawS → lawQ} {p0 k0 n0 i0 : Nat} (hat : am_at M pc = some (ins, 3, ix)) (hinv : am_inv ins (wl s e) st = some (j, as, rest)) (hc : CW X d j as wl s R') (hns : ∀ i, ins ≠ .invokespecial i)
    (a1 : am_hnd M pc 0 = some p0) (a2 : am_at M p0 = some (.astore k0, n0, i0)) (a3 : k0 < am_mL M)
    (k : ∀ x S1, AW X d M wl e (pc + 3) lv (.int x :: rest) S1 (K x S1)) (g0 : ∀ S1, AW X d M wl e (p0 + n0) [] [] S1 (h0 S1)) : AW X d M wl e pc lv st s (az_tI1 R' K h0) := by
  refine aw_try hat hinv hc hns (fun o T h => ?_)
  unfold az_tI1 at h ⊢
  split at h
  · next x S1 => exact ⟨_, S1, rfl, Or.inl ⟨some (.int x), rfl, k x S1⟩⟩
  · next x S1 =>
    by_cases hx : x = 0
    · rw [if_pos hx] at h
      refine ⟨_, S1, rfl, Or.inr ⟨x, p0, k0, n0, i0, rfl, by rw [hx]; exact a1, a2, a3, ?_⟩⟩
      simp only [if_pos hx]; exact g0 S1
    · rw [if_neg hx] at h; cases h
  · cases h
theorem aw_tO1 {K : Int32 → lawS → lawQ} {h0 : lawS → lawQ} {p0 k0 n0 i0 : Nat} (hat : am_at M pc = some (ins, 3, ix)) (hinv : am_inv ins (wl s e) st = some (j, as, rest)) (hc : CW X d j as wl s R') (hns : ∀ i, ins ≠ .invokespecial i)
    (a1 : am_hnd M pc 2 = some p0) (a2 : am_at M p0 = some (.astore k0, n0, i0)) (a3 : k0 < am_mL M)
    (k : ∀ x S1, AW X d M wl e (pc + 3) lv (.int x :: rest) S1 (K x S1)) (g0 : ∀ S1, AW X d M wl e (p0 + n0) [] [] S1 (h0 S1)) : AW X d M wl e pc lv st s (az_tO1 R' K h0) := by
  refine aw_try hat hinv hc hns (fun o T h => ?_)
  unfold az_tO1 at h ⊢
  split at h
  · next x S1 => exact ⟨_, S1, rfl, Or.inl ⟨some (.int x), rfl, k x S1⟩⟩
  · next x S1 =>
    by_cases hx : x = 2
    · rw [if_pos hx] at h
      refine ⟨_, S1, rfl, Or.inr ⟨x, p0, k0, n0, i0, rfl, by rw [hx]; exact a1, a2, a3, ?_⟩⟩
      simp only [if_pos hx]; exact g0 S1
    · rw [if_neg hx] at h; cases h
  · cases h
theorem aw_tV1 {K : lawS → lawQ} {h0 : lawS → lawQ} {p0 k0 n0 i0 : Nat} (hat : am_at M pc = some (ins, 3, ix)) (hinv : am_inv ins (wl s e) st = some (j, as, rest)) (hc : CW X d j as wl s R') (hns : ∀ i, ins ≠ .invokespecial i)
    (a1 : am_hnd M pc 0 = some p0) (a2 : am_at M p0 = some (.astore k0, n0, i0)) (a3 : k0 < am_mL M)
    (k : ∀ S1, AW X d M wl e (pc + 3) lv rest S1 (K S1)) (g0 : ∀ S1, AW X d M wl e (p0 + n0) [] [] S1 (h0 S1)) : AW X d M wl e pc lv st s (az_tV1 R' K h0) := by
  refine aw_try hat hinv hc hns (fun o T h => ?_)
  unfold az_tV1 at h ⊢
  split at h
  · next S1 => exact ⟨_, S1, rfl, Or.inl ⟨none, rfl, k S1⟩⟩
  · next x S1 =>
    by_cases hx : x = 0
    · rw [if_pos hx] at h
      refine ⟨_, S1, rfl, Or.inr ⟨x, p0, k0, n0, i0, rfl, by rw [hx]; exact a1, a2, a3, ?_⟩⟩
      simp only [if_pos hx]; exact g0 S1
    · rw [if_neg hx] at h; cases h
  · cases h
end LAWR

theorem at_181_0 : am_at am_m181 0 = some (.aload 4, 2, 0) := rfl
theorem at_181_2 : am_at am_m181 2 = some (.iconst 0, 1, 0) := rfl
theorem at_181_3 : am_at am_m181 3 = some (.aload 0, 1, 0) := rfl
theorem at_181_4 : am_at am_m181 4 = some (.lload 1, 1, 0) := rfl
theorem at_181_5 : am_at am_m181 5 = some (.iload 3, 1, 0) := rfl
theorem at_181_6 : am_at am_m181 6 = some (.invokevirtual 116, 3, 7) := rfl
theorem at_181_9 : am_at am_m181 9 = some (.i2l, 1, 0) := rfl
theorem at_181_10 : am_at am_m181 10 = some (.lastore, 1, 0) := rfl
theorem at_181_11 : am_at am_m181 11 = some (.goto 22, 3, 0) := rfl
theorem at_181_14 : am_at am_m181 14 = some (.astore 5, 2, 0) := rfl
theorem at_181_16 : am_at am_m181 16 = some (.iconst 1, 1, 0) := rfl
theorem at_181_17 : am_at am_m181 17 = some (.ireturn, 1, 0) := rfl
theorem at_181_18 : am_at am_m181 18 = some (.astore 5, 2, 0) := rfl
theorem at_181_20 : am_at am_m181 20 = some (.iconst 2, 1, 0) := rfl
theorem at_181_21 : am_at am_m181 21 = some (.ireturn, 1, 0) := rfl
theorem at_181_22 : am_at am_m181 22 = some (.iconst 0, 1, 0) := rfl
theorem at_181_23 : am_at am_m181 23 = some (.ireturn, 1, 0) := rfl
def g_181 (n : Nat) (l1 : Int64) (l3 : Int32) (S : lawS) : lawQ := az_tI2 (lfC S (g_116 n l1 l3 S.1)) (fun x2 S1 => az_ck 0 1 (az_st (sU S1 (0 : Int32).toNatClampNeg (Int32.toInt64 x2)) fun S3 => some (.inl (some (.int 0)), S3))) (fun S1 => some (.inl (some (.int 1)), S1)) (fun S1 => some (.inl (some (.int 2)), S1))
theorem t_181 {X : amX} {d e : Nat} (hd : 3 ≤ d) (n : Nat)  (l1 : Int64) (l3 : Int32) (S : lawS) : AW X d am_m181 wl e 0 [(0, .ref 0), (1, .long l1), (3, .int l3), (4, .ref 67)] [] S (g_181 n l1 l3 S) := by
  unfold g_181
  refine aw_aload at_181_0 rfl ?_
  refine aw_ic 0 at_181_2 ic_0 ?_
  refine aw_aload at_181_3 rfl ?_
  refine aw_lload at_181_4 rfl ?_
  refine aw_iload at_181_5 rfl ?_
  refine aw_tI2 at_181_6 rfl (cw_lfC (c_116 (by omega) n _ _ _)) (fun _ h => by cases h) rfl rfl (by decide) rfl rfl (by decide) (fun x2 S1 => ?_) (fun S1 => ?_) (fun S1 => ?_)
  · refine aw_i2l at_181_9 ?_
    refine aw_last at_181_10 ar_67 (as_67 _ _) (fun S3 => ?_)
    refine aw_goto at_181_11 ?_
    refine aw_ic 0 at_181_22 ic_0 ?_
    exact aw_rI at_181_23 rfl
  · refine aw_ic 1 at_181_16 ic_1 ?_
    exact aw_rI at_181_17 rfl
  · refine aw_ic 2 at_181_20 ic_2 ?_
    exact aw_rI at_181_21 rfl
theorem c_181 {X : amX} {d : Nat} (hd : 4 ≤ d) (n : Nat) (l1 : Int64) (l3 : Int32) (S : lawS) : CW X d 181 [.ref 0, .long l1, .int l3, .ref 67] wl S (g_181 n l1 l3 S) := cw_up (by omega) (fun d' h => by
  subst h
  exact cw_of rfl (by decide) (Nat.le_of_ble_eq_true rfl) rfl (fun e => t_181 (by omega) n l1 l3 S))
theorem at_182_0 : am_at am_m182 0 = some (.aload 0, 1, 0) := rfl
theorem at_182_1 : am_at am_m182 1 = some (.invokevirtual 117, 3, 17) := rfl
theorem at_182_4 : am_at am_m182 4 = some (.goto 10, 3, 0) := rfl
theorem at_182_7 : am_at am_m182 7 = some (.astore 1, 1, 0) := rfl
theorem at_182_8 : am_at am_m182 8 = some (.iconst 1, 1, 0) := rfl
theorem at_182_9 : am_at am_m182 9 = some (.ireturn, 1, 0) := rfl
theorem at_182_10 : am_at am_m182 10 = some (.iconst 0, 1, 0) := rfl
theorem at_182_11 : am_at am_m182 11 = some (.ireturn, 1, 0) := rfl
def g_182 (n : Nat) (S : lawS) : lawQ := az_tV1 (lfC S (g_117 (g_73 25 n) n S.1)) (fun S1 => some (.inl (some (.int 0)), S1)) (fun S1 => some (.inl (some (.int 1)), S1))
theorem t_182 {X : amX} {d e : Nat} (hd : 520 ≤ d) (n : Nat)  (S : lawS) : AW X d am_m182 wl e 0 [(0, .ref 0)] [] S (g_182 n S) := by
  unfold g_182
  refine aw_aload at_182_0 rfl ?_
  refine aw_tV1 at_182_1 rfl (cw_lfC (c_117 (dE := 500) (fun dep S d' h => c_73 n 25 dep S d' h) (by omega) n _)) (fun _ h => by cases h) rfl rfl (by decide) (fun S1 => ?_) (fun S1 => ?_)
  · refine aw_goto at_182_4 ?_
    refine aw_ic 0 at_182_10 ic_0 ?_
    exact aw_rI at_182_11 rfl
  · refine aw_ic 1 at_182_8 ic_1 ?_
    exact aw_rI at_182_9 rfl
theorem c_182 {X : amX} {d : Nat} (hd : 521 ≤ d) (n : Nat) (S : lawS) : CW X d 182 [.ref 0] wl S (g_182 n S) := cw_up (by omega) (fun d' h => by
  subst h
  exact cw_of rfl (by decide) (Nat.le_of_ble_eq_true rfl) rfl (fun e => t_182 (by omega) n S))
theorem at_183_0 : am_at am_m183 0 = some (.aload 2, 1, 0) := rfl
theorem at_183_1 : am_at am_m183 1 = some (.iconst 0, 1, 0) := rfl
theorem at_183_2 : am_at am_m183 2 = some (.aload 0, 1, 0) := rfl
theorem at_183_3 : am_at am_m183 3 = some (.iload 1, 1, 0) := rfl
theorem at_183_4 : am_at am_m183 4 = some (.invokevirtual 119, 3, 20) := rfl
theorem at_183_7 : am_at am_m183 7 = some (.i2l, 1, 0) := rfl
theorem at_183_8 : am_at am_m183 8 = some (.lastore, 1, 0) := rfl
theorem at_183_9 : am_at am_m183 9 = some (.goto 18, 3, 0) := rfl
theorem at_183_12 : am_at am_m183 12 = some (.astore 3, 1, 0) := rfl
theorem at_183_13 : am_at am_m183 13 = some (.iconst 1, 1, 0) := rfl
theorem at_183_14 : am_at am_m183 14 = some (.ireturn, 1, 0) := rfl
theorem at_183_15 : am_at am_m183 15 = some (.astore 3, 1, 0) := rfl
theorem at_183_16 : am_at am_m183 16 = some (.iconst 2, 1, 0) := rfl
theorem at_183_17 : am_at am_m183 17 = some (.ireturn, 1, 0) := rfl
theorem at_183_18 : am_at am_m183 18 = some (.iconst 0, 1, 0) := rfl
theorem at_183_19 : am_at am_m183 19 = some (.ireturn, 1, 0) := rfl
def g_183 (n : Nat) (l1 : Int32) (S : lawS) : lawQ := az_tI2 (lfC S (g_119 n l1 S.1)) (fun x2 S1 => az_ck 0 1 (az_st (sU S1 (0 : Int32).toNatClampNeg (Int32.toInt64 x2)) fun S3 => some (.inl (some (.int 0)), S3))) (fun S1 => some (.inl (some (.int 1)), S1)) (fun S1 => some (.inl (some (.int 2)), S1))
theorem t_183 {X : amX} {d e : Nat} (hd : 7 ≤ d) (n : Nat)  (l1 : Int32) (S : lawS) : AW X d am_m183 wl e 0 [(0, .ref 0), (1, .int l1), (2, .ref 67)] [] S (g_183 n l1 S) := by
  unfold g_183
  refine aw_aload at_183_0 rfl ?_
  refine aw_ic 0 at_183_1 ic_0 ?_
  refine aw_aload at_183_2 rfl ?_
  refine aw_iload at_183_3 rfl ?_
  refine aw_tI2 at_183_4 rfl (cw_lfC (c_119 (by omega) n _ _)) (fun _ h => by cases h) rfl rfl (by decide) rfl rfl (by decide) (fun x2 S1 => ?_) (fun S1 => ?_) (fun S1 => ?_)
  · refine aw_i2l at_183_7 ?_
    refine aw_last at_183_8 ar_67 (as_67 _ _) (fun S3 => ?_)
    refine aw_goto at_183_9 ?_
    refine aw_ic 0 at_183_18 ic_0 ?_
    exact aw_rI at_183_19 rfl
  · refine aw_ic 1 at_183_13 ic_1 ?_
    exact aw_rI at_183_14 rfl
  · refine aw_ic 2 at_183_16 ic_2 ?_
    exact aw_rI at_183_17 rfl
theorem c_183 {X : amX} {d : Nat} (hd : 8 ≤ d) (n : Nat) (l1 : Int32) (S : lawS) : CW X d 183 [.ref 0, .int l1, .ref 67] wl S (g_183 n l1 S) := cw_up (by omega) (fun d' h => by
  subst h
  exact cw_of rfl (by decide) (Nat.le_of_ble_eq_true rfl) rfl (fun e => t_183 (by omega) n l1 S))
theorem at_184_0 : am_at am_m184 0 = some (.aload 2, 1, 0) := rfl
theorem at_184_1 : am_at am_m184 1 = some (.iconst 0, 1, 0) := rfl
theorem at_184_2 : am_at am_m184 2 = some (.aload 0, 1, 0) := rfl
theorem at_184_3 : am_at am_m184 3 = some (.iload 1, 1, 0) := rfl
theorem at_184_4 : am_at am_m184 4 = some (.invokevirtual 121, 3, 24) := rfl
theorem at_184_7 : am_at am_m184 7 = some (.i2l, 1, 0) := rfl
theorem at_184_8 : am_at am_m184 8 = some (.lastore, 1, 0) := rfl
theorem at_184_9 : am_at am_m184 9 = some (.goto 15, 3, 0) := rfl
theorem at_184_12 : am_at am_m184 12 = some (.astore 3, 1, 0) := rfl
theorem at_184_13 : am_at am_m184 13 = some (.iconst 1, 1, 0) := rfl
theorem at_184_14 : am_at am_m184 14 = some (.ireturn, 1, 0) := rfl
theorem at_184_15 : am_at am_m184 15 = some (.iconst 0, 1, 0) := rfl
theorem at_184_16 : am_at am_m184 16 = some (.ireturn, 1, 0) := rfl
def g_184 (n : Nat) (l1 : Int32) (S : lawS) : lawQ := az_tI1 (lfC S (g_121 l1 S.1)) (fun x2 S1 => az_ck 0 1 (az_st (sU S1 (0 : Int32).toNatClampNeg (Int32.toInt64 x2)) fun S3 => some (.inl (some (.int 0)), S3))) (fun S1 => some (.inl (some (.int 1)), S1))
theorem t_184 {X : amX} {d e : Nat} (hd : 1 ≤ d) (n : Nat)  (l1 : Int32) (S : lawS) : AW X d am_m184 wl e 0 [(0, .ref 0), (1, .int l1), (2, .ref 67)] [] S (g_184 n l1 S) := by
  unfold g_184
  refine aw_aload at_184_0 rfl ?_
  refine aw_ic 0 at_184_1 ic_0 ?_
  refine aw_aload at_184_2 rfl ?_
  refine aw_iload at_184_3 rfl ?_
  refine aw_tI1 at_184_4 rfl (cw_lfC (c_121 (by omega) _ _)) (fun _ h => by cases h) rfl rfl (by decide) (fun x2 S1 => ?_) (fun S1 => ?_)
  · refine aw_i2l at_184_7 ?_
    refine aw_last at_184_8 ar_67 (as_67 _ _) (fun S3 => ?_)
    refine aw_goto at_184_9 ?_
    refine aw_ic 0 at_184_15 ic_0 ?_
    exact aw_rI at_184_16 rfl
  · refine aw_ic 1 at_184_13 ic_1 ?_
    exact aw_rI at_184_14 rfl
theorem c_184 {X : amX} {d : Nat} (hd : 2 ≤ d) (n : Nat) (l1 : Int32) (S : lawS) : CW X d 184 [.ref 0, .int l1, .ref 67] wl S (g_184 n l1 S) := cw_up (by omega) (fun d' h => by
  subst h
  exact cw_of rfl (by decide) (Nat.le_of_ble_eq_true rfl) rfl (fun e => t_184 (by omega) n l1 S))
theorem at_185_0 : am_at am_m185 0 = some (.aload 2, 1, 0) := rfl
theorem at_185_1 : am_at am_m185 1 = some (.iconst 0, 1, 0) := rfl
theorem at_185_2 : am_at am_m185 2 = some (.aload 0, 1, 0) := rfl
theorem at_185_3 : am_at am_m185 3 = some (.iload 1, 1, 0) := rfl
theorem at_185_4 : am_at am_m185 4 = some (.invokevirtual 122, 3, 27) := rfl
theorem at_185_7 : am_at am_m185 7 = some (.i2l, 1, 0) := rfl
theorem at_185_8 : am_at am_m185 8 = some (.lastore, 1, 0) := rfl
theorem at_185_9 : am_at am_m185 9 = some (.goto 15, 3, 0) := rfl
theorem at_185_12 : am_at am_m185 12 = some (.astore 3, 1, 0) := rfl
theorem at_185_13 : am_at am_m185 13 = some (.iconst 1, 1, 0) := rfl
theorem at_185_14 : am_at am_m185 14 = some (.ireturn, 1, 0) := rfl
theorem at_185_15 : am_at am_m185 15 = some (.iconst 0, 1, 0) := rfl
theorem at_185_16 : am_at am_m185 16 = some (.ireturn, 1, 0) := rfl
def g_185 (n : Nat) (l1 : Int32) (S : lawS) : lawQ := az_tO1 (lfC S (g_122 l1 S.1)) (fun x2 S1 => az_ck 0 1 (az_st (sU S1 (0 : Int32).toNatClampNeg (Int32.toInt64 x2)) fun S3 => some (.inl (some (.int 0)), S3))) (fun S1 => some (.inl (some (.int 1)), S1))
theorem t_185 {X : amX} {d e : Nat} (hd : 3 ≤ d) (n : Nat)  (l1 : Int32) (S : lawS) : AW X d am_m185 wl e 0 [(0, .ref 0), (1, .int l1), (2, .ref 67)] [] S (g_185 n l1 S) := by
  unfold g_185
  refine aw_aload at_185_0 rfl ?_
  refine aw_ic 0 at_185_1 ic_0 ?_
  refine aw_aload at_185_2 rfl ?_
  refine aw_iload at_185_3 rfl ?_
  refine aw_tO1 at_185_4 rfl (cw_lfC (c_122 (by omega) _ _)) (fun _ h => by cases h) rfl rfl (by decide) (fun x2 S1 => ?_) (fun S1 => ?_)
  · refine aw_i2l at_185_7 ?_
    refine aw_last at_185_8 ar_67 (as_67 _ _) (fun S3 => ?_)
    refine aw_goto at_185_9 ?_
    refine aw_ic 0 at_185_15 ic_0 ?_
    exact aw_rI at_185_16 rfl
  · refine aw_ic 1 at_185_13 ic_1 ?_
    exact aw_rI at_185_14 rfl
theorem c_185 {X : amX} {d : Nat} (hd : 4 ≤ d) (n : Nat) (l1 : Int32) (S : lawS) : CW X d 185 [.ref 0, .int l1, .ref 67] wl S (g_185 n l1 S) := cw_up (by omega) (fun d' h => by
  subst h
  exact cw_of rfl (by decide) (Nat.le_of_ble_eq_true rfl) rfl (fun e => t_185 (by omega) n l1 S))
theorem at_186_0 : am_at am_m186 0 = some (.aload 2, 1, 0) := rfl
theorem at_186_1 : am_at am_m186 1 = some (.iconst 0, 1, 0) := rfl
theorem at_186_2 : am_at am_m186 2 = some (.aload 0, 1, 0) := rfl
theorem at_186_3 : am_at am_m186 3 = some (.iload 1, 1, 0) := rfl
theorem at_186_4 : am_at am_m186 4 = some (.invokevirtual 123, 3, 32) := rfl
theorem at_186_7 : am_at am_m186 7 = some (.i2l, 1, 0) := rfl
theorem at_186_8 : am_at am_m186 8 = some (.lastore, 1, 0) := rfl
theorem at_186_9 : am_at am_m186 9 = some (.goto 18, 3, 0) := rfl
theorem at_186_12 : am_at am_m186 12 = some (.astore 3, 1, 0) := rfl
theorem at_186_13 : am_at am_m186 13 = some (.iconst 1, 1, 0) := rfl
theorem at_186_14 : am_at am_m186 14 = some (.ireturn, 1, 0) := rfl
theorem at_186_15 : am_at am_m186 15 = some (.astore 3, 1, 0) := rfl
theorem at_186_16 : am_at am_m186 16 = some (.iconst 2, 1, 0) := rfl
theorem at_186_17 : am_at am_m186 17 = some (.ireturn, 1, 0) := rfl
theorem at_186_18 : am_at am_m186 18 = some (.iconst 0, 1, 0) := rfl
theorem at_186_19 : am_at am_m186 19 = some (.ireturn, 1, 0) := rfl
def g_186 (n : Nat) (l1 : Int32) (S : lawS) : lawQ := az_tI2 (lfC S (g_123 n l1 S.1)) (fun x2 S1 => az_ck 0 1 (az_st (sU S1 (0 : Int32).toNatClampNeg (Int32.toInt64 x2)) fun S3 => some (.inl (some (.int 0)), S3))) (fun S1 => some (.inl (some (.int 1)), S1)) (fun S1 => some (.inl (some (.int 2)), S1))
theorem t_186 {X : amX} {d e : Nat} (hd : 4 ≤ d) (n : Nat)  (l1 : Int32) (S : lawS) : AW X d am_m186 wl e 0 [(0, .ref 0), (1, .int l1), (2, .ref 67)] [] S (g_186 n l1 S) := by
  unfold g_186
  refine aw_aload at_186_0 rfl ?_
  refine aw_ic 0 at_186_1 ic_0 ?_
  refine aw_aload at_186_2 rfl ?_
  refine aw_iload at_186_3 rfl ?_
  refine aw_tI2 at_186_4 rfl (cw_lfC (c_123 (by omega) n _ _)) (fun _ h => by cases h) rfl rfl (by decide) rfl rfl (by decide) (fun x2 S1 => ?_) (fun S1 => ?_) (fun S1 => ?_)
  · refine aw_i2l at_186_7 ?_
    refine aw_last at_186_8 ar_67 (as_67 _ _) (fun S3 => ?_)
    refine aw_goto at_186_9 ?_
    refine aw_ic 0 at_186_18 ic_0 ?_
    exact aw_rI at_186_19 rfl
  · refine aw_ic 1 at_186_13 ic_1 ?_
    exact aw_rI at_186_14 rfl
  · refine aw_ic 2 at_186_16 ic_2 ?_
    exact aw_rI at_186_17 rfl
theorem c_186 {X : amX} {d : Nat} (hd : 5 ≤ d) (n : Nat) (l1 : Int32) (S : lawS) : CW X d 186 [.ref 0, .int l1, .ref 67] wl S (g_186 n l1 S) := cw_up (by omega) (fun d' h => by
  subst h
  exact cw_of rfl (by decide) (Nat.le_of_ble_eq_true rfl) rfl (fun e => t_186 (by omega) n l1 S))
theorem at_187_0 : am_at am_m187 0 = some (.aload 2, 1, 0) := rfl
theorem at_187_1 : am_at am_m187 1 = some (.iconst 0, 1, 0) := rfl
theorem at_187_2 : am_at am_m187 2 = some (.aload 0, 1, 0) := rfl
theorem at_187_3 : am_at am_m187 3 = some (.iload 1, 1, 0) := rfl
theorem at_187_4 : am_at am_m187 4 = some (.invokevirtual 124, 3, 35) := rfl
theorem at_187_7 : am_at am_m187 7 = some (.i2l, 1, 0) := rfl
theorem at_187_8 : am_at am_m187 8 = some (.lastore, 1, 0) := rfl
theorem at_187_9 : am_at am_m187 9 = some (.goto 18, 3, 0) := rfl
theorem at_187_12 : am_at am_m187 12 = some (.astore 3, 1, 0) := rfl
theorem at_187_13 : am_at am_m187 13 = some (.iconst 1, 1, 0) := rfl
theorem at_187_14 : am_at am_m187 14 = some (.ireturn, 1, 0) := rfl
theorem at_187_15 : am_at am_m187 15 = some (.astore 3, 1, 0) := rfl
theorem at_187_16 : am_at am_m187 16 = some (.iconst 2, 1, 0) := rfl
theorem at_187_17 : am_at am_m187 17 = some (.ireturn, 1, 0) := rfl
theorem at_187_18 : am_at am_m187 18 = some (.iconst 0, 1, 0) := rfl
theorem at_187_19 : am_at am_m187 19 = some (.ireturn, 1, 0) := rfl
def g_187 (n : Nat) (l1 : Int32) (S : lawS) : lawQ := az_tI2 (lfC S (g_124 n l1 S.1)) (fun x2 S1 => az_ck 0 1 (az_st (sU S1 (0 : Int32).toNatClampNeg (Int32.toInt64 x2)) fun S3 => some (.inl (some (.int 0)), S3))) (fun S1 => some (.inl (some (.int 1)), S1)) (fun S1 => some (.inl (some (.int 2)), S1))
theorem t_187 {X : amX} {d e : Nat} (hd : 4 ≤ d) (n : Nat)  (l1 : Int32) (S : lawS) : AW X d am_m187 wl e 0 [(0, .ref 0), (1, .int l1), (2, .ref 67)] [] S (g_187 n l1 S) := by
  unfold g_187
  refine aw_aload at_187_0 rfl ?_
  refine aw_ic 0 at_187_1 ic_0 ?_
  refine aw_aload at_187_2 rfl ?_
  refine aw_iload at_187_3 rfl ?_
  refine aw_tI2 at_187_4 rfl (cw_lfC (c_124 (by omega) n _ _)) (fun _ h => by cases h) rfl rfl (by decide) rfl rfl (by decide) (fun x2 S1 => ?_) (fun S1 => ?_) (fun S1 => ?_)
  · refine aw_i2l at_187_7 ?_
    refine aw_last at_187_8 ar_67 (as_67 _ _) (fun S3 => ?_)
    refine aw_goto at_187_9 ?_
    refine aw_ic 0 at_187_18 ic_0 ?_
    exact aw_rI at_187_19 rfl
  · refine aw_ic 1 at_187_13 ic_1 ?_
    exact aw_rI at_187_14 rfl
  · refine aw_ic 2 at_187_16 ic_2 ?_
    exact aw_rI at_187_17 rfl
theorem c_187 {X : amX} {d : Nat} (hd : 5 ≤ d) (n : Nat) (l1 : Int32) (S : lawS) : CW X d 187 [.ref 0, .int l1, .ref 67] wl S (g_187 n l1 S) := cw_up (by omega) (fun d' h => by
  subst h
  exact cw_of rfl (by decide) (Nat.le_of_ble_eq_true rfl) rfl (fun e => t_187 (by omega) n l1 S))
theorem at_188_0 : am_at am_m188 0 = some (.new 8, 3, 8) := rfl
theorem at_188_3 : am_at am_m188 3 = some (.dup, 1, 0) := rfl
theorem at_188_4 : am_at am_m188 4 = some (.invokespecial 115, 3, 38) := rfl
theorem at_188_7 : am_at am_m188 7 = some (.astore 1, 1, 0) := rfl
theorem at_188_8 : am_at am_m188 8 = some (.new 9, 3, 39) := rfl
theorem at_188_11 : am_at am_m188 11 = some (.dup, 1, 0) := rfl
theorem at_188_12 : am_at am_m188 12 = some (.invokespecial 126, 3, 41) := rfl
theorem at_188_15 : am_at am_m188 15 = some (.astore 2, 1, 0) := rfl
theorem at_188_16 : am_at am_m188 16 = some (.iconst 1, 1, 0) := rfl
theorem at_188_17 : am_at am_m188 17 = some (.newarray .long, 2, 0) := rfl
theorem at_188_19 : am_at am_m188 19 = some (.astore 3, 1, 0) := rfl
theorem at_188_20 : am_at am_m188 20 = some (.iconst 0, 1, 0) := rfl
theorem at_188_21 : am_at am_m188 21 = some (.istore 4, 2, 0) := rfl
theorem at_188_23 : am_at am_m188 23 = some (.iload 4, 2, 0) := rfl
theorem at_188_25 : am_at am_m188 25 = some (.aload 0, 1, 0) := rfl
theorem at_188_26 : am_at am_m188 26 = some (.arraylength, 1, 0) := rfl
theorem at_188_27 : am_at am_m188 27 = some (.iconst 4, 1, 0) := rfl
theorem at_188_28 : am_at am_m188 28 = some (.isub, 1, 0) := rfl
theorem at_188_29 : am_at am_m188 29 = some (.if_icmp .gt 524, 3, 0) := rfl
theorem at_188_32 : am_at am_m188 32 = some (.aload 0, 1, 0) := rfl
theorem at_188_33 : am_at am_m188 33 = some (.iload 4, 2, 0) := rfl
theorem at_188_35 : am_at am_m188 35 = some (.iaload, 1, 0) := rfl
theorem at_188_36 : am_at am_m188 36 = some (.iconst 15, 2, 1) := rfl
theorem at_188_38 : am_at am_m188 38 = some (.iand, 1, 0) := rfl
theorem at_188_39 : am_at am_m188 39 = some (.tableswitch 518 0 8 #[88, 188, 212, 225, 281, 294, 350, 406, 462], 49, 0) := rfl
theorem at_188_88 : am_at am_m188 88 = some (.aload 1, 1, 0) := rfl
theorem at_188_89 : am_at am_m188 89 = some (.aload 0, 1, 0) := rfl
theorem at_188_90 : am_at am_m188 90 = some (.iload 4, 2, 0) := rfl
theorem at_188_92 : am_at am_m188 92 = some (.iconst 1, 1, 0) := rfl
theorem at_188_93 : am_at am_m188 93 = some (.iadd, 1, 0) := rfl
theorem at_188_94 : am_at am_m188 94 = some (.iaload, 1, 0) := rfl
theorem at_188_95 : am_at am_m188 95 = some (.i2l, 1, 0) := rfl
theorem at_188_96 : am_at am_m188 96 = some (.iconst 32, 2, 1) := rfl
theorem at_188_98 : am_at am_m188 98 = some (.lshl, 1, 0) := rfl
theorem at_188_99 : am_at am_m188 99 = some (.aload 0, 1, 0) := rfl
theorem at_188_100 : am_at am_m188 100 = some (.iload 4, 2, 0) := rfl
theorem at_188_102 : am_at am_m188 102 = some (.iconst 2, 1, 0) := rfl
theorem at_188_103 : am_at am_m188 103 = some (.iadd, 1, 0) := rfl
theorem at_188_104 : am_at am_m188 104 = some (.iaload, 1, 0) := rfl
theorem at_188_105 : am_at am_m188 105 = some (.i2l, 1, 0) := rfl
theorem at_188_106 : am_at am_m188 106 = some (.jsr_w 4294967295, 3, 42) := rfl
theorem at_188_109 : am_at am_m188 109 = some (.land, 1, 0) := rfl
theorem at_188_110 : am_at am_m188 110 = some (.lor, 1, 0) := rfl
theorem at_188_111 : am_at am_m188 111 = some (.aload 0, 1, 0) := rfl
theorem at_188_112 : am_at am_m188 112 = some (.iload 4, 2, 0) := rfl
theorem at_188_114 : am_at am_m188 114 = some (.iconst 3, 1, 0) := rfl
theorem at_188_115 : am_at am_m188 115 = some (.iadd, 1, 0) := rfl
theorem at_188_116 : am_at am_m188 116 = some (.iaload, 1, 0) := rfl
theorem at_188_117 : am_at am_m188 117 = some (.aload 3, 1, 0) := rfl
theorem at_188_118 : am_at am_m188 118 = some (.invokestatic 181, 3, 44) := rfl
theorem at_188_121 : am_at am_m188 121 = some (.istore 5, 2, 0) := rfl
theorem at_188_123 : am_at am_m188 123 = some (.aload 2, 1, 0) := rfl
theorem at_188_124 : am_at am_m188 124 = some (.aload 0, 1, 0) := rfl
theorem at_188_125 : am_at am_m188 125 = some (.iload 4, 2, 0) := rfl
theorem at_188_127 : am_at am_m188 127 = some (.iconst 1, 1, 0) := rfl
theorem at_188_128 : am_at am_m188 128 = some (.iadd, 1, 0) := rfl
theorem at_188_129 : am_at am_m188 129 = some (.iaload, 1, 0) := rfl
theorem at_188_130 : am_at am_m188 130 = some (.i2l, 1, 0) := rfl
theorem at_188_131 : am_at am_m188 131 = some (.iconst 32, 2, 1) := rfl
theorem at_188_133 : am_at am_m188 133 = some (.lshl, 1, 0) := rfl
theorem at_188_134 : am_at am_m188 134 = some (.aload 0, 1, 0) := rfl
theorem at_188_135 : am_at am_m188 135 = some (.iload 4, 2, 0) := rfl
theorem at_188_137 : am_at am_m188 137 = some (.iconst 2, 1, 0) := rfl
theorem at_188_138 : am_at am_m188 138 = some (.iadd, 1, 0) := rfl
theorem at_188_139 : am_at am_m188 139 = some (.iaload, 1, 0) := rfl
theorem at_188_140 : am_at am_m188 140 = some (.i2l, 1, 0) := rfl
theorem at_188_141 : am_at am_m188 141 = some (.jsr_w 4294967295, 3, 42) := rfl
theorem at_188_144 : am_at am_m188 144 = some (.land, 1, 0) := rfl
theorem at_188_145 : am_at am_m188 145 = some (.lor, 1, 0) := rfl
theorem at_188_146 : am_at am_m188 146 = some (.aload 0, 1, 0) := rfl
theorem at_188_147 : am_at am_m188 147 = some (.iload 4, 2, 0) := rfl
theorem at_188_149 : am_at am_m188 149 = some (.iconst 3, 1, 0) := rfl
theorem at_188_150 : am_at am_m188 150 = some (.iadd, 1, 0) := rfl
theorem at_188_151 : am_at am_m188 151 = some (.iaload, 1, 0) := rfl
theorem at_188_152 : am_at am_m188 152 = some (.invokevirtual 130, 3, 49) := rfl
theorem at_188_155 : am_at am_m188 155 = some (.istore 6, 2, 0) := rfl
theorem at_188_157 : am_at am_m188 157 = some (.aload 2, 1, 0) := rfl
theorem at_188_158 : am_at am_m188 158 = some (.invokevirtual 127, 3, 50) := rfl
theorem at_188_161 : am_at am_m188 161 = some (.iload 5, 2, 0) := rfl
theorem at_188_163 : am_at am_m188 163 = some (.if_icmp .eq 168, 3, 0) := rfl
theorem at_188_166 : am_at am_m188 166 = some (.iconst 0, 1, 0) := rfl
theorem at_188_167 : am_at am_m188 167 = some (.ireturn, 1, 0) := rfl
theorem at_188_168 : am_at am_m188 168 = some (.iload 5, 2, 0) := rfl
theorem at_188_170 : am_at am_m188 170 = some (.ifCond .ne 185, 3, 0) := rfl
theorem at_188_173 : am_at am_m188 173 = some (.aload 3, 1, 0) := rfl
theorem at_188_174 : am_at am_m188 174 = some (.iconst 0, 1, 0) := rfl
theorem at_188_175 : am_at am_m188 175 = some (.laload, 1, 0) := rfl
theorem at_188_176 : am_at am_m188 176 = some (.iload 6, 2, 0) := rfl
theorem at_188_178 : am_at am_m188 178 = some (.i2l, 1, 0) := rfl
theorem at_188_179 : am_at am_m188 179 = some (.lcmp, 1, 0) := rfl
theorem at_188_180 : am_at am_m188 180 = some (.ifCond .eq 185, 3, 0) := rfl
theorem at_188_183 : am_at am_m188 183 = some (.iconst 0, 1, 0) := rfl
theorem at_188_184 : am_at am_m188 184 = some (.ireturn, 1, 0) := rfl
theorem at_188_185 : am_at am_m188 185 = some (.goto 518, 3, 0) := rfl
theorem at_188_188 : am_at am_m188 188 = some (.aload 1, 1, 0) := rfl
theorem at_188_189 : am_at am_m188 189 = some (.invokestatic 182, 3, 54) := rfl
theorem at_188_192 : am_at am_m188 192 = some (.istore 5, 2, 0) := rfl
theorem at_188_194 : am_at am_m188 194 = some (.aload 2, 1, 0) := rfl
theorem at_188_195 : am_at am_m188 195 = some (.invokevirtual 154, 3, 57) := rfl
theorem at_188_198 : am_at am_m188 198 = some (.aload 2, 1, 0) := rfl
theorem at_188_199 : am_at am_m188 199 = some (.invokevirtual 127, 3, 50) := rfl
theorem at_188_202 : am_at am_m188 202 = some (.iload 5, 2, 0) := rfl
theorem at_188_204 : am_at am_m188 204 = some (.if_icmp .eq 209, 3, 0) := rfl
theorem at_188_207 : am_at am_m188 207 = some (.iconst 0, 1, 0) := rfl
theorem at_188_208 : am_at am_m188 208 = some (.ireturn, 1, 0) := rfl
theorem at_188_209 : am_at am_m188 209 = some (.goto 518, 3, 0) := rfl
theorem at_188_212 : am_at am_m188 212 = some (.aload 1, 1, 0) := rfl
theorem at_188_213 : am_at am_m188 213 = some (.invokevirtual 118, 3, 58) := rfl
theorem at_188_216 : am_at am_m188 216 = some (.aload 2, 1, 0) := rfl
theorem at_188_217 : am_at am_m188 217 = some (.invokevirtual 174, 3, 61) := rfl
theorem at_188_220 : am_at am_m188 220 = some (.if_icmp .eq 518, 3, 0) := rfl
theorem at_188_223 : am_at am_m188 223 = some (.iconst 0, 1, 0) := rfl
theorem at_188_224 : am_at am_m188 224 = some (.ireturn, 1, 0) := rfl
theorem at_188_225 : am_at am_m188 225 = some (.aload 1, 1, 0) := rfl
theorem at_188_226 : am_at am_m188 226 = some (.aload 0, 1, 0) := rfl
theorem at_188_227 : am_at am_m188 227 = some (.iload 4, 2, 0) := rfl
theorem at_188_229 : am_at am_m188 229 = some (.iconst 1, 1, 0) := rfl
theorem at_188_230 : am_at am_m188 230 = some (.iadd, 1, 0) := rfl
theorem at_188_231 : am_at am_m188 231 = some (.iaload, 1, 0) := rfl
theorem at_188_232 : am_at am_m188 232 = some (.aload 3, 1, 0) := rfl
theorem at_188_233 : am_at am_m188 233 = some (.invokestatic 183, 3, 62) := rfl
theorem at_188_236 : am_at am_m188 236 = some (.istore 5, 2, 0) := rfl
theorem at_188_238 : am_at am_m188 238 = some (.aload 2, 1, 0) := rfl
theorem at_188_239 : am_at am_m188 239 = some (.aload 0, 1, 0) := rfl
theorem at_188_240 : am_at am_m188 240 = some (.iload 4, 2, 0) := rfl
theorem at_188_242 : am_at am_m188 242 = some (.iconst 1, 1, 0) := rfl
theorem at_188_243 : am_at am_m188 243 = some (.iadd, 1, 0) := rfl
theorem at_188_244 : am_at am_m188 244 = some (.iaload, 1, 0) := rfl
theorem at_188_245 : am_at am_m188 245 = some (.invokevirtual 173, 3, 65) := rfl
theorem at_188_248 : am_at am_m188 248 = some (.istore 6, 2, 0) := rfl
theorem at_188_250 : am_at am_m188 250 = some (.aload 2, 1, 0) := rfl
theorem at_188_251 : am_at am_m188 251 = some (.invokevirtual 127, 3, 50) := rfl
theorem at_188_254 : am_at am_m188 254 = some (.iload 5, 2, 0) := rfl
theorem at_188_256 : am_at am_m188 256 = some (.if_icmp .eq 261, 3, 0) := rfl
theorem at_188_259 : am_at am_m188 259 = some (.iconst 0, 1, 0) := rfl
theorem at_188_260 : am_at am_m188 260 = some (.ireturn, 1, 0) := rfl
theorem at_188_261 : am_at am_m188 261 = some (.iload 5, 2, 0) := rfl
theorem at_188_263 : am_at am_m188 263 = some (.ifCond .ne 278, 3, 0) := rfl
theorem at_188_266 : am_at am_m188 266 = some (.aload 3, 1, 0) := rfl
theorem at_188_267 : am_at am_m188 267 = some (.iconst 0, 1, 0) := rfl
theorem at_188_268 : am_at am_m188 268 = some (.laload, 1, 0) := rfl
theorem at_188_269 : am_at am_m188 269 = some (.iload 6, 2, 0) := rfl
theorem at_188_271 : am_at am_m188 271 = some (.i2l, 1, 0) := rfl
theorem at_188_272 : am_at am_m188 272 = some (.lcmp, 1, 0) := rfl
theorem at_188_273 : am_at am_m188 273 = some (.ifCond .eq 278, 3, 0) := rfl
theorem at_188_276 : am_at am_m188 276 = some (.iconst 0, 1, 0) := rfl
theorem at_188_277 : am_at am_m188 277 = some (.ireturn, 1, 0) := rfl
theorem at_188_278 : am_at am_m188 278 = some (.goto 518, 3, 0) := rfl
theorem at_188_281 : am_at am_m188 281 = some (.aload 1, 1, 0) := rfl
theorem at_188_282 : am_at am_m188 282 = some (.invokevirtual 120, 3, 66) := rfl
theorem at_188_285 : am_at am_m188 285 = some (.aload 2, 1, 0) := rfl
theorem at_188_286 : am_at am_m188 286 = some (.invokevirtual 175, 3, 69) := rfl
theorem at_188_289 : am_at am_m188 289 = some (.if_icmp .eq 518, 3, 0) := rfl
theorem at_188_292 : am_at am_m188 292 = some (.iconst 0, 1, 0) := rfl
theorem at_188_293 : am_at am_m188 293 = some (.ireturn, 1, 0) := rfl
theorem at_188_294 : am_at am_m188 294 = some (.aload 1, 1, 0) := rfl
theorem at_188_295 : am_at am_m188 295 = some (.aload 0, 1, 0) := rfl
theorem at_188_296 : am_at am_m188 296 = some (.iload 4, 2, 0) := rfl
theorem at_188_298 : am_at am_m188 298 = some (.iconst 1, 1, 0) := rfl
theorem at_188_299 : am_at am_m188 299 = some (.iadd, 1, 0) := rfl
theorem at_188_300 : am_at am_m188 300 = some (.iaload, 1, 0) := rfl
theorem at_188_301 : am_at am_m188 301 = some (.aload 3, 1, 0) := rfl
theorem at_188_302 : am_at am_m188 302 = some (.invokestatic 184, 3, 70) := rfl
theorem at_188_305 : am_at am_m188 305 = some (.istore 5, 2, 0) := rfl
theorem at_188_307 : am_at am_m188 307 = some (.aload 2, 1, 0) := rfl
theorem at_188_308 : am_at am_m188 308 = some (.aload 0, 1, 0) := rfl
theorem at_188_309 : am_at am_m188 309 = some (.iload 4, 2, 0) := rfl
theorem at_188_311 : am_at am_m188 311 = some (.iconst 1, 1, 0) := rfl
theorem at_188_312 : am_at am_m188 312 = some (.iadd, 1, 0) := rfl
theorem at_188_313 : am_at am_m188 313 = some (.iaload, 1, 0) := rfl
theorem at_188_314 : am_at am_m188 314 = some (.invokevirtual 176, 3, 72) := rfl
theorem at_188_317 : am_at am_m188 317 = some (.istore 6, 2, 0) := rfl
theorem at_188_319 : am_at am_m188 319 = some (.aload 2, 1, 0) := rfl
theorem at_188_320 : am_at am_m188 320 = some (.invokevirtual 127, 3, 50) := rfl
theorem at_188_323 : am_at am_m188 323 = some (.iload 5, 2, 0) := rfl
theorem at_188_325 : am_at am_m188 325 = some (.if_icmp .eq 330, 3, 0) := rfl
theorem at_188_328 : am_at am_m188 328 = some (.iconst 0, 1, 0) := rfl
theorem at_188_329 : am_at am_m188 329 = some (.ireturn, 1, 0) := rfl
theorem at_188_330 : am_at am_m188 330 = some (.iload 5, 2, 0) := rfl
theorem at_188_332 : am_at am_m188 332 = some (.ifCond .ne 347, 3, 0) := rfl
theorem at_188_335 : am_at am_m188 335 = some (.aload 3, 1, 0) := rfl
theorem at_188_336 : am_at am_m188 336 = some (.iconst 0, 1, 0) := rfl
theorem at_188_337 : am_at am_m188 337 = some (.laload, 1, 0) := rfl
theorem at_188_338 : am_at am_m188 338 = some (.iload 6, 2, 0) := rfl
theorem at_188_340 : am_at am_m188 340 = some (.i2l, 1, 0) := rfl
theorem at_188_341 : am_at am_m188 341 = some (.lcmp, 1, 0) := rfl
theorem at_188_342 : am_at am_m188 342 = some (.ifCond .eq 347, 3, 0) := rfl
theorem at_188_345 : am_at am_m188 345 = some (.iconst 0, 1, 0) := rfl
theorem at_188_346 : am_at am_m188 346 = some (.ireturn, 1, 0) := rfl
theorem at_188_347 : am_at am_m188 347 = some (.goto 518, 3, 0) := rfl
theorem at_188_350 : am_at am_m188 350 = some (.aload 1, 1, 0) := rfl
theorem at_188_351 : am_at am_m188 351 = some (.aload 0, 1, 0) := rfl
theorem at_188_352 : am_at am_m188 352 = some (.iload 4, 2, 0) := rfl
theorem at_188_354 : am_at am_m188 354 = some (.iconst 1, 1, 0) := rfl
theorem at_188_355 : am_at am_m188 355 = some (.iadd, 1, 0) := rfl
theorem at_188_356 : am_at am_m188 356 = some (.iaload, 1, 0) := rfl
theorem at_188_357 : am_at am_m188 357 = some (.aload 3, 1, 0) := rfl
theorem at_188_358 : am_at am_m188 358 = some (.invokestatic 185, 3, 73) := rfl
theorem at_188_361 : am_at am_m188 361 = some (.istore 5, 2, 0) := rfl
theorem at_188_363 : am_at am_m188 363 = some (.aload 2, 1, 0) := rfl
theorem at_188_364 : am_at am_m188 364 = some (.aload 0, 1, 0) := rfl
theorem at_188_365 : am_at am_m188 365 = some (.iload 4, 2, 0) := rfl
theorem at_188_367 : am_at am_m188 367 = some (.iconst 1, 1, 0) := rfl
theorem at_188_368 : am_at am_m188 368 = some (.iadd, 1, 0) := rfl
theorem at_188_369 : am_at am_m188 369 = some (.iaload, 1, 0) := rfl
theorem at_188_370 : am_at am_m188 370 = some (.invokevirtual 177, 3, 75) := rfl
theorem at_188_373 : am_at am_m188 373 = some (.istore 6, 2, 0) := rfl
theorem at_188_375 : am_at am_m188 375 = some (.aload 2, 1, 0) := rfl
theorem at_188_376 : am_at am_m188 376 = some (.invokevirtual 127, 3, 50) := rfl
theorem at_188_379 : am_at am_m188 379 = some (.iload 5, 2, 0) := rfl
theorem at_188_381 : am_at am_m188 381 = some (.if_icmp .eq 386, 3, 0) := rfl
theorem at_188_384 : am_at am_m188 384 = some (.iconst 0, 1, 0) := rfl
theorem at_188_385 : am_at am_m188 385 = some (.ireturn, 1, 0) := rfl
theorem at_188_386 : am_at am_m188 386 = some (.iload 5, 2, 0) := rfl
theorem at_188_388 : am_at am_m188 388 = some (.ifCond .ne 403, 3, 0) := rfl
theorem at_188_391 : am_at am_m188 391 = some (.aload 3, 1, 0) := rfl
theorem at_188_392 : am_at am_m188 392 = some (.iconst 0, 1, 0) := rfl
theorem at_188_393 : am_at am_m188 393 = some (.laload, 1, 0) := rfl
theorem at_188_394 : am_at am_m188 394 = some (.iload 6, 2, 0) := rfl
theorem at_188_396 : am_at am_m188 396 = some (.i2l, 1, 0) := rfl
theorem at_188_397 : am_at am_m188 397 = some (.lcmp, 1, 0) := rfl
theorem at_188_398 : am_at am_m188 398 = some (.ifCond .eq 403, 3, 0) := rfl
theorem at_188_401 : am_at am_m188 401 = some (.iconst 0, 1, 0) := rfl
theorem at_188_402 : am_at am_m188 402 = some (.ireturn, 1, 0) := rfl
theorem at_188_403 : am_at am_m188 403 = some (.goto 518, 3, 0) := rfl
theorem at_188_406 : am_at am_m188 406 = some (.aload 1, 1, 0) := rfl
theorem at_188_407 : am_at am_m188 407 = some (.aload 0, 1, 0) := rfl
theorem at_188_408 : am_at am_m188 408 = some (.iload 4, 2, 0) := rfl
theorem at_188_410 : am_at am_m188 410 = some (.iconst 1, 1, 0) := rfl
theorem at_188_411 : am_at am_m188 411 = some (.iadd, 1, 0) := rfl
theorem at_188_412 : am_at am_m188 412 = some (.iaload, 1, 0) := rfl
theorem at_188_413 : am_at am_m188 413 = some (.aload 3, 1, 0) := rfl
theorem at_188_414 : am_at am_m188 414 = some (.invokestatic 186, 3, 76) := rfl
theorem at_188_417 : am_at am_m188 417 = some (.istore 5, 2, 0) := rfl
theorem at_188_419 : am_at am_m188 419 = some (.aload 2, 1, 0) := rfl
theorem at_188_420 : am_at am_m188 420 = some (.aload 0, 1, 0) := rfl
theorem at_188_421 : am_at am_m188 421 = some (.iload 4, 2, 0) := rfl
theorem at_188_423 : am_at am_m188 423 = some (.iconst 1, 1, 0) := rfl
theorem at_188_424 : am_at am_m188 424 = some (.iadd, 1, 0) := rfl
theorem at_188_425 : am_at am_m188 425 = some (.iaload, 1, 0) := rfl
theorem at_188_426 : am_at am_m188 426 = some (.invokevirtual 179, 3, 78) := rfl
theorem at_188_429 : am_at am_m188 429 = some (.istore 6, 2, 0) := rfl
theorem at_188_431 : am_at am_m188 431 = some (.aload 2, 1, 0) := rfl
theorem at_188_432 : am_at am_m188 432 = some (.invokevirtual 127, 3, 50) := rfl
theorem at_188_435 : am_at am_m188 435 = some (.iload 5, 2, 0) := rfl
theorem at_188_437 : am_at am_m188 437 = some (.if_icmp .eq 442, 3, 0) := rfl
theorem at_188_440 : am_at am_m188 440 = some (.iconst 0, 1, 0) := rfl
theorem at_188_441 : am_at am_m188 441 = some (.ireturn, 1, 0) := rfl
theorem at_188_442 : am_at am_m188 442 = some (.iload 5, 2, 0) := rfl
theorem at_188_444 : am_at am_m188 444 = some (.ifCond .ne 459, 3, 0) := rfl
theorem at_188_447 : am_at am_m188 447 = some (.aload 3, 1, 0) := rfl
theorem at_188_448 : am_at am_m188 448 = some (.iconst 0, 1, 0) := rfl
theorem at_188_449 : am_at am_m188 449 = some (.laload, 1, 0) := rfl
theorem at_188_450 : am_at am_m188 450 = some (.iload 6, 2, 0) := rfl
theorem at_188_452 : am_at am_m188 452 = some (.i2l, 1, 0) := rfl
theorem at_188_453 : am_at am_m188 453 = some (.lcmp, 1, 0) := rfl
theorem at_188_454 : am_at am_m188 454 = some (.ifCond .eq 459, 3, 0) := rfl
theorem at_188_457 : am_at am_m188 457 = some (.iconst 0, 1, 0) := rfl
theorem at_188_458 : am_at am_m188 458 = some (.ireturn, 1, 0) := rfl
theorem at_188_459 : am_at am_m188 459 = some (.goto 518, 3, 0) := rfl
theorem at_188_462 : am_at am_m188 462 = some (.aload 1, 1, 0) := rfl
theorem at_188_463 : am_at am_m188 463 = some (.aload 0, 1, 0) := rfl
theorem at_188_464 : am_at am_m188 464 = some (.iload 4, 2, 0) := rfl
theorem at_188_466 : am_at am_m188 466 = some (.iconst 1, 1, 0) := rfl
theorem at_188_467 : am_at am_m188 467 = some (.iadd, 1, 0) := rfl
theorem at_188_468 : am_at am_m188 468 = some (.iaload, 1, 0) := rfl
theorem at_188_469 : am_at am_m188 469 = some (.aload 3, 1, 0) := rfl
theorem at_188_470 : am_at am_m188 470 = some (.invokestatic 187, 3, 79) := rfl
theorem at_188_473 : am_at am_m188 473 = some (.istore 5, 2, 0) := rfl
theorem at_188_475 : am_at am_m188 475 = some (.aload 2, 1, 0) := rfl
theorem at_188_476 : am_at am_m188 476 = some (.aload 0, 1, 0) := rfl
theorem at_188_477 : am_at am_m188 477 = some (.iload 4, 2, 0) := rfl
theorem at_188_479 : am_at am_m188 479 = some (.iconst 1, 1, 0) := rfl
theorem at_188_480 : am_at am_m188 480 = some (.iadd, 1, 0) := rfl
theorem at_188_481 : am_at am_m188 481 = some (.iaload, 1, 0) := rfl
theorem at_188_482 : am_at am_m188 482 = some (.invokevirtual 180, 3, 81) := rfl
theorem at_188_485 : am_at am_m188 485 = some (.istore 6, 2, 0) := rfl
theorem at_188_487 : am_at am_m188 487 = some (.aload 2, 1, 0) := rfl
theorem at_188_488 : am_at am_m188 488 = some (.invokevirtual 127, 3, 50) := rfl
theorem at_188_491 : am_at am_m188 491 = some (.iload 5, 2, 0) := rfl
theorem at_188_493 : am_at am_m188 493 = some (.if_icmp .eq 498, 3, 0) := rfl
theorem at_188_496 : am_at am_m188 496 = some (.iconst 0, 1, 0) := rfl
theorem at_188_497 : am_at am_m188 497 = some (.ireturn, 1, 0) := rfl
theorem at_188_498 : am_at am_m188 498 = some (.iload 5, 2, 0) := rfl
theorem at_188_500 : am_at am_m188 500 = some (.ifCond .ne 515, 3, 0) := rfl
theorem at_188_503 : am_at am_m188 503 = some (.aload 3, 1, 0) := rfl
theorem at_188_504 : am_at am_m188 504 = some (.iconst 0, 1, 0) := rfl
theorem at_188_505 : am_at am_m188 505 = some (.laload, 1, 0) := rfl
theorem at_188_506 : am_at am_m188 506 = some (.iload 6, 2, 0) := rfl
theorem at_188_508 : am_at am_m188 508 = some (.i2l, 1, 0) := rfl
theorem at_188_509 : am_at am_m188 509 = some (.lcmp, 1, 0) := rfl
theorem at_188_510 : am_at am_m188 510 = some (.ifCond .eq 515, 3, 0) := rfl
theorem at_188_513 : am_at am_m188 513 = some (.iconst 0, 1, 0) := rfl
theorem at_188_514 : am_at am_m188 514 = some (.ireturn, 1, 0) := rfl
theorem at_188_515 : am_at am_m188 515 = some (.goto 518, 3, 0) := rfl
theorem at_188_518 : am_at am_m188 518 = some (.iinc 4 4, 3, 0) := rfl
theorem at_188_521 : am_at am_m188 521 = some (.goto 23, 3, 0) := rfl
theorem at_188_524 : am_at am_m188 524 = some (.iconst 1, 1, 0) := rfl
theorem at_188_525 : am_at am_m188 525 = some (.ireturn, 1, 0) := rfl
def g_188_518 (X : amX) (n : Nat) (H23 : Int32 → lawS → lawQ) (l4 : Int32) (S : lawS) : lawQ := H23 (l4 + 4) S
theorem t_188_518 {X : amX} {d e : Nat} {H23 : Int32 → lawS → lawQ} (hd : 521 ≤ d) (n : Nat) (hH23 : ∀ (l4 : Int32) (S : lawS), AW X d am_m188 wl e 23 [(0, .ref 2000), (1, .ref 0), (2, .ref 34), (3, .ref 67), (4, .int l4)] [] S (H23 l4 S)) (l4 : Int32) (S : lawS) : AW X d am_m188 wl e 518 [(0, .ref 2000), (1, .ref 0), (2, .ref 34), (3, .ref 67), (4, .int l4)] [] S (g_188_518 X n H23 l4 S) := by
  unfold g_188_518
  refine aw_iinc at_188_518 rfl (by decide) rfl ic_4 rfl ?_
  refine aw_goto at_188_521 ?_
  exact aw_sub (al_cons rfl (al_cons rfl (al_cons rfl (al_cons rfl (al_cons rfl al_nil))))) (hH23 (l4 + 4) S)
def g_188_515 (X : amX) (n : Nat) (H23 : Int32 → lawS → lawQ) (l4 : Int32) (S : lawS) : lawQ := g_188_518 X n H23 l4 S
theorem t_188_515 {X : amX} {d e : Nat} {H23 : Int32 → lawS → lawQ} (hd : 521 ≤ d) (n : Nat) (hH23 : ∀ (l4 : Int32) (S : lawS), AW X d am_m188 wl e 23 [(0, .ref 2000), (1, .ref 0), (2, .ref 34), (3, .ref 67), (4, .int l4)] [] S (H23 l4 S)) (l4 : Int32) (S : lawS) : AW X d am_m188 wl e 515 [(0, .ref 2000), (1, .ref 0), (2, .ref 34), (3, .ref 67), (4, .int l4)] [] S (g_188_515 X n H23 l4 S) := by
  unfold g_188_515
  refine aw_goto at_188_515 ?_
  exact aw_sub (al_cons rfl (al_cons rfl (al_cons rfl (al_cons rfl (al_cons rfl al_nil))))) (t_188_518 (by omega) n hH23 l4 S)
def g_188_459 (X : amX) (n : Nat) (H23 : Int32 → lawS → lawQ) (l4 : Int32) (S : lawS) : lawQ := g_188_518 X n H23 l4 S
theorem t_188_459 {X : amX} {d e : Nat} {H23 : Int32 → lawS → lawQ} (hd : 521 ≤ d) (n : Nat) (hH23 : ∀ (l4 : Int32) (S : lawS), AW X d am_m188 wl e 23 [(0, .ref 2000), (1, .ref 0), (2, .ref 34), (3, .ref 67), (4, .int l4)] [] S (H23 l4 S)) (l4 : Int32) (S : lawS) : AW X d am_m188 wl e 459 [(0, .ref 2000), (1, .ref 0), (2, .ref 34), (3, .ref 67), (4, .int l4)] [] S (g_188_459 X n H23 l4 S) := by
  unfold g_188_459
  refine aw_goto at_188_459 ?_
  exact aw_sub (al_cons rfl (al_cons rfl (al_cons rfl (al_cons rfl (al_cons rfl al_nil))))) (t_188_518 (by omega) n hH23 l4 S)
def g_188_403 (X : amX) (n : Nat) (H23 : Int32 → lawS → lawQ) (l4 : Int32) (S : lawS) : lawQ := g_188_518 X n H23 l4 S
theorem t_188_403 {X : amX} {d e : Nat} {H23 : Int32 → lawS → lawQ} (hd : 521 ≤ d) (n : Nat) (hH23 : ∀ (l4 : Int32) (S : lawS), AW X d am_m188 wl e 23 [(0, .ref 2000), (1, .ref 0), (2, .ref 34), (3, .ref 67), (4, .int l4)] [] S (H23 l4 S)) (l4 : Int32) (S : lawS) : AW X d am_m188 wl e 403 [(0, .ref 2000), (1, .ref 0), (2, .ref 34), (3, .ref 67), (4, .int l4)] [] S (g_188_403 X n H23 l4 S) := by
  unfold g_188_403
  refine aw_goto at_188_403 ?_
  exact aw_sub (al_cons rfl (al_cons rfl (al_cons rfl (al_cons rfl (al_cons rfl al_nil))))) (t_188_518 (by omega) n hH23 l4 S)
def g_188_347 (X : amX) (n : Nat) (H23 : Int32 → lawS → lawQ) (l4 : Int32) (S : lawS) : lawQ := g_188_518 X n H23 l4 S
theorem t_188_347 {X : amX} {d e : Nat} {H23 : Int32 → lawS → lawQ} (hd : 521 ≤ d) (n : Nat) (hH23 : ∀ (l4 : Int32) (S : lawS), AW X d am_m188 wl e 23 [(0, .ref 2000), (1, .ref 0), (2, .ref 34), (3, .ref 67), (4, .int l4)] [] S (H23 l4 S)) (l4 : Int32) (S : lawS) : AW X d am_m188 wl e 347 [(0, .ref 2000), (1, .ref 0), (2, .ref 34), (3, .ref 67), (4, .int l4)] [] S (g_188_347 X n H23 l4 S) := by
  unfold g_188_347
  refine aw_goto at_188_347 ?_
  exact aw_sub (al_cons rfl (al_cons rfl (al_cons rfl (al_cons rfl (al_cons rfl al_nil))))) (t_188_518 (by omega) n hH23 l4 S)
def g_188_278 (X : amX) (n : Nat) (H23 : Int32 → lawS → lawQ) (l4 : Int32) (S : lawS) : lawQ := g_188_518 X n H23 l4 S
theorem t_188_278 {X : amX} {d e : Nat} {H23 : Int32 → lawS → lawQ} (hd : 521 ≤ d) (n : Nat) (hH23 : ∀ (l4 : Int32) (S : lawS), AW X d am_m188 wl e 23 [(0, .ref 2000), (1, .ref 0), (2, .ref 34), (3, .ref 67), (4, .int l4)] [] S (H23 l4 S)) (l4 : Int32) (S : lawS) : AW X d am_m188 wl e 278 [(0, .ref 2000), (1, .ref 0), (2, .ref 34), (3, .ref 67), (4, .int l4)] [] S (g_188_278 X n H23 l4 S) := by
  unfold g_188_278
  refine aw_goto at_188_278 ?_
  exact aw_sub (al_cons rfl (al_cons rfl (al_cons rfl (al_cons rfl (al_cons rfl al_nil))))) (t_188_518 (by omega) n hH23 l4 S)
def g_188_185 (X : amX) (n : Nat) (H23 : Int32 → lawS → lawQ) (l4 : Int32) (S : lawS) : lawQ := g_188_518 X n H23 l4 S
theorem t_188_185 {X : amX} {d e : Nat} {H23 : Int32 → lawS → lawQ} (hd : 521 ≤ d) (n : Nat) (hH23 : ∀ (l4 : Int32) (S : lawS), AW X d am_m188 wl e 23 [(0, .ref 2000), (1, .ref 0), (2, .ref 34), (3, .ref 67), (4, .int l4)] [] S (H23 l4 S)) (l4 : Int32) (S : lawS) : AW X d am_m188 wl e 185 [(0, .ref 2000), (1, .ref 0), (2, .ref 34), (3, .ref 67), (4, .int l4)] [] S (g_188_185 X n H23 l4 S) := by
  unfold g_188_185
  refine aw_goto at_188_185 ?_
  exact aw_sub (al_cons rfl (al_cons rfl (al_cons rfl (al_cons rfl (al_cons rfl al_nil))))) (t_188_518 (by omega) n hH23 l4 S)
def h_188_23 (X : amX) (n : Nat) (H23 : Int32 → lawS → lawQ) (l4 : Int32) (S : lawS) : lawQ := if ((Int32.ofNat X.1) - 4) < l4 then some (.inl (some (.int 1)), S) else az_ck l4 X.1 (az_st ((X.2 l4.toNatClampNeg) &&& 15) fun x1 => if x1 = 0 then (az_ck (l4 + 1) X.1 (az_ck (l4 + 2) X.1 (az_ck (l4 + 3) X.1 (az_bI (g_181 n (((Int32.toInt64 (X.2 (l4 + 1).toNatClampNeg)) <<< ((32 : Int32).toInt64 &&& 63)) ||| ((Int32.toInt64 (X.2 (l4 + 2).toNatClampNeg)) &&& 4294967295)) (X.2 (l4 + 3).toNatClampNeg) S) fun x3 S2 => az_ck (l4 + 1) X.1 (az_ck (l4 + 2) X.1 (az_ck (l4 + 3) X.1 (az_bI (lfM S2 (g_130 n (((Int32.toInt64 (X.2 (l4 + 1).toNatClampNeg)) <<< ((32 : Int32).toInt64 &&& 63)) ||| ((Int32.toInt64 (X.2 (l4 + 2).toNatClampNeg)) &&& 4294967295)) (X.2 (l4 + 3).toNatClampNeg) S2.2.1)) fun x5 S4 => az_bI (lfM S4 (g_127 S4.2.1)) fun x7 S6 => if x7 = x3 then if x3 = 0 then az_ck 0 1 (if (lg_cmp (S6.2.2.1 (0 : Int32).toNatClampNeg) (Int32.toInt64 x5)) = 0 then g_188_185 X n H23 l4 S6 else some (.inl (some (.int 0)), S6)) else g_188_185 X n H23 l4 S6 else some (.inl (some (.int 0)), S6)))))))) else if x1 = 1 then (az_bI (g_182 n S) fun x9 S8 => az_bV (lfM S8 (g_154 n S8.2.1)) fun S10 => az_bI (lfM S10 (g_127 S10.2.1)) fun x12 S11 => if x12 = x9 then g_188_518 X n H23 l4 S11 else some (.inl (some (.int 0)), S11)) else if x1 = 2 then (az_bI (lfC S (g_118 S.1)) fun x14 S13 => az_bI (lfM S13 (g_174 S13.2.1)) fun x16 S15 => if x14 = x16 then g_188_518 X n H23 l4 S15 else some (.inl (some (.int 0)), S15)) else if x1 = 3 then (az_ck (l4 + 1) X.1 (az_bI (g_183 n (X.2 (l4 + 1).toNatClampNeg) S) fun x18 S17 => az_ck (l4 + 1) X.1 (az_bI (lfM S17 (g_173 n (X.2 (l4 + 1).toNatClampNeg) S17.2.1)) fun x20 S19 => az_bI (lfM S19 (g_127 S19.2.1)) fun x22 S21 => if x22 = x18 then if x18 = 0 then az_ck 0 1 (if (lg_cmp (S21.2.2.1 (0 : Int32).toNatClampNeg) (Int32.toInt64 x20)) = 0 then g_188_278 X n H23 l4 S21 else some (.inl (some (.int 0)), S21)) else g_188_278 X n H23 l4 S21 else some (.inl (some (.int 0)), S21)))) else if x1 = 4 then (az_bI (lfC S (g_120 S.1)) fun x24 S23 => az_bI (lfM S23 (g_175 S23.2.1)) fun x26 S25 => if x24 = x26 then g_188_518 X n H23 l4 S25 else some (.inl (some (.int 0)), S25)) else if x1 = 5 then (az_ck (l4 + 1) X.1 (az_bI (g_184 n (X.2 (l4 + 1).toNatClampNeg) S) fun x28 S27 => az_ck (l4 + 1) X.1 (az_bI (lfM S27 (g_176 (X.2 (l4 + 1).toNatClampNeg) S27.2.1)) fun x30 S29 => az_bI (lfM S29 (g_127 S29.2.1)) fun x32 S31 => if x32 = x28 then if x28 = 0 then az_ck 0 1 (if (lg_cmp (S31.2.2.1 (0 : Int32).toNatClampNeg) (Int32.toInt64 x30)) = 0 then g_188_347 X n H23 l4 S31 else some (.inl (some (.int 0)), S31)) else g_188_347 X n H23 l4 S31 else some (.inl (some (.int 0)), S31)))) else if x1 = 6 then (az_ck (l4 + 1) X.1 (az_bI (g_185 n (X.2 (l4 + 1).toNatClampNeg) S) fun x34 S33 => az_ck (l4 + 1) X.1 (az_bI (lfM S33 (g_177 (X.2 (l4 + 1).toNatClampNeg) S33.2.1)) fun x36 S35 => az_bI (lfM S35 (g_127 S35.2.1)) fun x38 S37 => if x38 = x34 then if x34 = 0 then az_ck 0 1 (if (lg_cmp (S37.2.2.1 (0 : Int32).toNatClampNeg) (Int32.toInt64 x36)) = 0 then g_188_403 X n H23 l4 S37 else some (.inl (some (.int 0)), S37)) else g_188_403 X n H23 l4 S37 else some (.inl (some (.int 0)), S37)))) else if x1 = 7 then (az_ck (l4 + 1) X.1 (az_bI (g_186 n (X.2 (l4 + 1).toNatClampNeg) S) fun x40 S39 => az_ck (l4 + 1) X.1 (az_bI (lfM S39 (g_179 n (X.2 (l4 + 1).toNatClampNeg) S39.2.1)) fun x42 S41 => az_bI (lfM S41 (g_127 S41.2.1)) fun x44 S43 => if x44 = x40 then if x40 = 0 then az_ck 0 1 (if (lg_cmp (S43.2.2.1 (0 : Int32).toNatClampNeg) (Int32.toInt64 x42)) = 0 then g_188_459 X n H23 l4 S43 else some (.inl (some (.int 0)), S43)) else g_188_459 X n H23 l4 S43 else some (.inl (some (.int 0)), S43)))) else if x1 = 8 then (az_ck (l4 + 1) X.1 (az_bI (g_187 n (X.2 (l4 + 1).toNatClampNeg) S) fun x46 S45 => az_ck (l4 + 1) X.1 (az_bI (lfM S45 (g_180 n (X.2 (l4 + 1).toNatClampNeg) S45.2.1)) fun x48 S47 => az_bI (lfM S47 (g_127 S47.2.1)) fun x50 S49 => if x50 = x46 then if x46 = 0 then az_ck 0 1 (if (lg_cmp (S49.2.2.1 (0 : Int32).toNatClampNeg) (Int32.toInt64 x48)) = 0 then g_188_515 X n H23 l4 S49 else some (.inl (some (.int 0)), S49)) else g_188_515 X n H23 l4 S49 else some (.inl (some (.int 0)), S49)))) else g_188_518 X n H23 l4 S)
def g_188_23 (X : amX) : Nat → Int32 → lawS → lawQ
  | 0 => fun _ _ => none
  | n + 1 => h_188_23 X n (g_188_23 X n)
theorem th_188_23 {X : amX} {d e : Nat} {H23 : Int32 → lawS → lawQ} (hd : 521 ≤ d) (n : Nat) (hH23 : ∀ (l4 : Int32) (S : lawS), AW X d am_m188 wl e 23 [(0, .ref 2000), (1, .ref 0), (2, .ref 34), (3, .ref 67), (4, .int l4)] [] S (H23 l4 S)) (l4 : Int32)  (S : lawS) : AW X d am_m188 wl e 23 [(0, .ref 2000), (1, .ref 0), (2, .ref 34), (3, .ref 67), (4, .int l4)] [] S (h_188_23 X n H23 l4 S) := by
  unfold h_188_23
  refine aw_iload at_188_23 rfl ?_
  refine aw_aload at_188_25 rfl ?_
  refine aw_alen (Int32.ofNat X.1) at_188_26 al_2000 rfl ?_
  refine aw_ic 4 at_188_27 ic_4 ?_
  refine aw_isub at_188_28 ?_
  refine aw_icmp_gt at_188_29 ?_ ?_
  · refine aw_ic 1 at_188_524 ic_1 ?_
    exact aw_rZ at_188_525 rfl (Or.inr rfl)
  · refine aw_aload at_188_32 rfl ?_
    refine aw_iload at_188_33 rfl ?_
    refine aw_iald at_188_35 ai_2000 ?_
    refine aw_ic 15 at_188_36 ic_15 ?_
    refine aw_iand at_188_38 ?_
    refine aw_nameI (fun x1 => ?_)
    refine aw_case 0 ?_ (fun h100 => ?_)
    · refine aw_tin 88 at_188_39 (by decide) ?_
      refine aw_aload at_188_88 rfl ?_
      refine aw_aload at_188_89 rfl ?_
      refine aw_iload at_188_90 rfl ?_
      refine aw_ic 1 at_188_92 ic_1 ?_
      refine aw_iadd at_188_93 ?_
      refine aw_iald at_188_94 ai_2000 ?_
      refine aw_i2l at_188_95 ?_
      refine aw_ic 32 at_188_96 ic_32 ?_
      refine aw_lshl at_188_98 ?_
      refine aw_aload at_188_99 rfl ?_
      refine aw_iload at_188_100 rfl ?_
      refine aw_ic 2 at_188_102 ic_2 ?_
      refine aw_iadd at_188_103 ?_
      refine aw_iald at_188_104 ai_2000 ?_
      refine aw_i2l at_188_105 ?_
      refine aw_lc 4294967295 at_188_106 (by decide) ?_
      refine aw_land at_188_109 ?_
      refine aw_lor at_188_110 ?_
      refine aw_aload at_188_111 rfl ?_
      refine aw_iload at_188_112 rfl ?_
      refine aw_ic 3 at_188_114 ic_3 ?_
      refine aw_iadd at_188_115 ?_
      refine aw_iald at_188_116 ai_2000 ?_
      refine aw_aload at_188_117 rfl ?_
      refine aw_cI at_188_118 rfl (c_181 (by omega) n _ _ _) (fun _ h => by cases h) rfl (fun x3 S2 => ?_)
      refine aw_istore at_188_121 (by decide) rfl rfl ?_
      refine aw_aload at_188_123 rfl ?_
      refine aw_aload at_188_124 rfl ?_
      refine aw_iload at_188_125 rfl ?_
      refine aw_ic 1 at_188_127 ic_1 ?_
      refine aw_iadd at_188_128 ?_
      refine aw_iald at_188_129 ai_2000 ?_
      refine aw_i2l at_188_130 ?_
      refine aw_ic 32 at_188_131 ic_32 ?_
      refine aw_lshl at_188_133 ?_
      refine aw_aload at_188_134 rfl ?_
      refine aw_iload at_188_135 rfl ?_
      refine aw_ic 2 at_188_137 ic_2 ?_
      refine aw_iadd at_188_138 ?_
      refine aw_iald at_188_139 ai_2000 ?_
      refine aw_i2l at_188_140 ?_
      refine aw_lc 4294967295 at_188_141 (by decide) ?_
      refine aw_land at_188_144 ?_
      refine aw_lor at_188_145 ?_
      refine aw_aload at_188_146 rfl ?_
      refine aw_iload at_188_147 rfl ?_
      refine aw_ic 3 at_188_149 ic_3 ?_
      refine aw_iadd at_188_150 ?_
      refine aw_iald at_188_151 ai_2000 ?_
      refine aw_cI at_188_152 rfl (cw_lfM (c_130 (by omega) n _ _ _)) (fun _ h => by cases h) rfl (fun x5 S4 => ?_)
      refine aw_istore at_188_155 (by decide) rfl rfl ?_
      refine aw_aload at_188_157 rfl ?_
      refine aw_cI at_188_158 rfl (cw_lfM (c_127 (by omega) _)) (fun _ h => by cases h) rfl (fun x7 S6 => ?_)
      refine aw_iload at_188_161 rfl ?_
      refine aw_icmp_eq at_188_163 ?_ ?_
      · refine aw_iload at_188_168 rfl ?_
        refine aw_if_ne at_188_170 ?_ ?_
        · exact aw_sub (al_cons rfl (al_cons rfl (al_cons rfl (al_cons rfl (al_cons rfl al_nil))))) (t_188_185 (by omega) n hH23 l4 S6)
        · refine aw_aload at_188_173 rfl ?_
          refine aw_ic 0 at_188_174 ic_0 ?_
          refine aw_lald at_188_175 ar_67 ?_
          refine aw_iload at_188_176 rfl ?_
          refine aw_i2l at_188_178 ?_
          refine aw_lcmp at_188_179 ?_
          refine aw_if_eq at_188_180 ?_ ?_
          · exact aw_sub (al_cons rfl (al_cons rfl (al_cons rfl (al_cons rfl (al_cons rfl al_nil))))) (t_188_185 (by omega) n hH23 l4 S6)
          · refine aw_ic 0 at_188_183 ic_0 ?_
            exact aw_rZ at_188_184 rfl (Or.inl rfl)
      · refine aw_ic 0 at_188_166 ic_0 ?_
        exact aw_rZ at_188_167 rfl (Or.inl rfl)
    refine aw_case 1 ?_ (fun h101 => ?_)
    · refine aw_tin 188 at_188_39 (by decide) ?_
      refine aw_aload at_188_188 rfl ?_
      refine aw_cI at_188_189 rfl (c_182 (by omega) n _) (fun _ h => by cases h) rfl (fun x9 S8 => ?_)
      refine aw_istore at_188_192 (by decide) rfl rfl ?_
      refine aw_aload at_188_194 rfl ?_
      refine aw_cV at_188_195 rfl (cw_lfM (c_154 (by omega) n _)) (fun _ h => by cases h) rfl (fun S10 => ?_)
      refine aw_aload at_188_198 rfl ?_
      refine aw_cI at_188_199 rfl (cw_lfM (c_127 (by omega) _)) (fun _ h => by cases h) rfl (fun x12 S11 => ?_)
      refine aw_iload at_188_202 rfl ?_
      refine aw_icmp_eq at_188_204 ?_ ?_
      · refine aw_goto at_188_209 ?_
        exact aw_sub (al_cons rfl (al_cons rfl (al_cons rfl (al_cons rfl (al_cons rfl al_nil))))) (t_188_518 (by omega) n hH23 l4 S11)
      · refine aw_ic 0 at_188_207 ic_0 ?_
        exact aw_rZ at_188_208 rfl (Or.inl rfl)
    refine aw_case 2 ?_ (fun h102 => ?_)
    · refine aw_tin 212 at_188_39 (by decide) ?_
      refine aw_aload at_188_212 rfl ?_
      refine aw_cI at_188_213 rfl (cw_lfC (c_118 (by omega) _)) (fun _ h => by cases h) rfl (fun x14 S13 => ?_)
      refine aw_aload at_188_216 rfl ?_
      refine aw_cI at_188_217 rfl (cw_lfM (c_174 (by omega) _)) (fun _ h => by cases h) rfl (fun x16 S15 => ?_)
      refine aw_icmp_eq at_188_220 ?_ ?_
      · exact aw_sub (al_cons rfl (al_cons rfl (al_cons rfl (al_cons rfl (al_cons rfl al_nil))))) (t_188_518 (by omega) n hH23 l4 S15)
      · refine aw_ic 0 at_188_223 ic_0 ?_
        exact aw_rZ at_188_224 rfl (Or.inl rfl)
    refine aw_case 3 ?_ (fun h103 => ?_)
    · refine aw_tin 225 at_188_39 (by decide) ?_
      refine aw_aload at_188_225 rfl ?_
      refine aw_aload at_188_226 rfl ?_
      refine aw_iload at_188_227 rfl ?_
      refine aw_ic 1 at_188_229 ic_1 ?_
      refine aw_iadd at_188_230 ?_
      refine aw_iald at_188_231 ai_2000 ?_
      refine aw_aload at_188_232 rfl ?_
      refine aw_cI at_188_233 rfl (c_183 (by omega) n _ _) (fun _ h => by cases h) rfl (fun x18 S17 => ?_)
      refine aw_istore at_188_236 (by decide) rfl rfl ?_
      refine aw_aload at_188_238 rfl ?_
      refine aw_aload at_188_239 rfl ?_
      refine aw_iload at_188_240 rfl ?_
      refine aw_ic 1 at_188_242 ic_1 ?_
      refine aw_iadd at_188_243 ?_
      refine aw_iald at_188_244 ai_2000 ?_
      refine aw_cI at_188_245 rfl (cw_lfM (c_173 (by omega) n _ _)) (fun _ h => by cases h) rfl (fun x20 S19 => ?_)
      refine aw_istore at_188_248 (by decide) rfl rfl ?_
      refine aw_aload at_188_250 rfl ?_
      refine aw_cI at_188_251 rfl (cw_lfM (c_127 (by omega) _)) (fun _ h => by cases h) rfl (fun x22 S21 => ?_)
      refine aw_iload at_188_254 rfl ?_
      refine aw_icmp_eq at_188_256 ?_ ?_
      · refine aw_iload at_188_261 rfl ?_
        refine aw_if_ne at_188_263 ?_ ?_
        · exact aw_sub (al_cons rfl (al_cons rfl (al_cons rfl (al_cons rfl (al_cons rfl al_nil))))) (t_188_278 (by omega) n hH23 l4 S21)
        · refine aw_aload at_188_266 rfl ?_
          refine aw_ic 0 at_188_267 ic_0 ?_
          refine aw_lald at_188_268 ar_67 ?_
          refine aw_iload at_188_269 rfl ?_
          refine aw_i2l at_188_271 ?_
          refine aw_lcmp at_188_272 ?_
          refine aw_if_eq at_188_273 ?_ ?_
          · exact aw_sub (al_cons rfl (al_cons rfl (al_cons rfl (al_cons rfl (al_cons rfl al_nil))))) (t_188_278 (by omega) n hH23 l4 S21)
          · refine aw_ic 0 at_188_276 ic_0 ?_
            exact aw_rZ at_188_277 rfl (Or.inl rfl)
      · refine aw_ic 0 at_188_259 ic_0 ?_
        exact aw_rZ at_188_260 rfl (Or.inl rfl)
    refine aw_case 4 ?_ (fun h104 => ?_)
    · refine aw_tin 281 at_188_39 (by decide) ?_
      refine aw_aload at_188_281 rfl ?_
      refine aw_cI at_188_282 rfl (cw_lfC (c_120 (by omega) _)) (fun _ h => by cases h) rfl (fun x24 S23 => ?_)
      refine aw_aload at_188_285 rfl ?_
      refine aw_cI at_188_286 rfl (cw_lfM (c_175 (by omega) _)) (fun _ h => by cases h) rfl (fun x26 S25 => ?_)
      refine aw_icmp_eq at_188_289 ?_ ?_
      · exact aw_sub (al_cons rfl (al_cons rfl (al_cons rfl (al_cons rfl (al_cons rfl al_nil))))) (t_188_518 (by omega) n hH23 l4 S25)
      · refine aw_ic 0 at_188_292 ic_0 ?_
        exact aw_rZ at_188_293 rfl (Or.inl rfl)
    refine aw_case 5 ?_ (fun h105 => ?_)
    · refine aw_tin 294 at_188_39 (by decide) ?_
      refine aw_aload at_188_294 rfl ?_
      refine aw_aload at_188_295 rfl ?_
      refine aw_iload at_188_296 rfl ?_
      refine aw_ic 1 at_188_298 ic_1 ?_
      refine aw_iadd at_188_299 ?_
      refine aw_iald at_188_300 ai_2000 ?_
      refine aw_aload at_188_301 rfl ?_
      refine aw_cI at_188_302 rfl (c_184 (by omega) n _ _) (fun _ h => by cases h) rfl (fun x28 S27 => ?_)
      refine aw_istore at_188_305 (by decide) rfl rfl ?_
      refine aw_aload at_188_307 rfl ?_
      refine aw_aload at_188_308 rfl ?_
      refine aw_iload at_188_309 rfl ?_
      refine aw_ic 1 at_188_311 ic_1 ?_
      refine aw_iadd at_188_312 ?_
      refine aw_iald at_188_313 ai_2000 ?_
      refine aw_cI at_188_314 rfl (cw_lfM (c_176 (by omega) _ _)) (fun _ h => by cases h) rfl (fun x30 S29 => ?_)
      refine aw_istore at_188_317 (by decide) rfl rfl ?_
      refine aw_aload at_188_319 rfl ?_
      refine aw_cI at_188_320 rfl (cw_lfM (c_127 (by omega) _)) (fun _ h => by cases h) rfl (fun x32 S31 => ?_)
      refine aw_iload at_188_323 rfl ?_
      refine aw_icmp_eq at_188_325 ?_ ?_
      · refine aw_iload at_188_330 rfl ?_
        refine aw_if_ne at_188_332 ?_ ?_
        · exact aw_sub (al_cons rfl (al_cons rfl (al_cons rfl (al_cons rfl (al_cons rfl al_nil))))) (t_188_347 (by omega) n hH23 l4 S31)
        · refine aw_aload at_188_335 rfl ?_
          refine aw_ic 0 at_188_336 ic_0 ?_
          refine aw_lald at_188_337 ar_67 ?_
          refine aw_iload at_188_338 rfl ?_
          refine aw_i2l at_188_340 ?_
          refine aw_lcmp at_188_341 ?_
          refine aw_if_eq at_188_342 ?_ ?_
          · exact aw_sub (al_cons rfl (al_cons rfl (al_cons rfl (al_cons rfl (al_cons rfl al_nil))))) (t_188_347 (by omega) n hH23 l4 S31)
          · refine aw_ic 0 at_188_345 ic_0 ?_
            exact aw_rZ at_188_346 rfl (Or.inl rfl)
      · refine aw_ic 0 at_188_328 ic_0 ?_
        exact aw_rZ at_188_329 rfl (Or.inl rfl)
    refine aw_case 6 ?_ (fun h106 => ?_)
    · refine aw_tin 350 at_188_39 (by decide) ?_
      refine aw_aload at_188_350 rfl ?_
      refine aw_aload at_188_351 rfl ?_
      refine aw_iload at_188_352 rfl ?_
      refine aw_ic 1 at_188_354 ic_1 ?_
      refine aw_iadd at_188_355 ?_
      refine aw_iald at_188_356 ai_2000 ?_
      refine aw_aload at_188_357 rfl ?_
      refine aw_cI at_188_358 rfl (c_185 (by omega) n _ _) (fun _ h => by cases h) rfl (fun x34 S33 => ?_)
      refine aw_istore at_188_361 (by decide) rfl rfl ?_
      refine aw_aload at_188_363 rfl ?_
      refine aw_aload at_188_364 rfl ?_
      refine aw_iload at_188_365 rfl ?_
      refine aw_ic 1 at_188_367 ic_1 ?_
      refine aw_iadd at_188_368 ?_
      refine aw_iald at_188_369 ai_2000 ?_
      refine aw_cI at_188_370 rfl (cw_lfM (c_177 (by omega) _ _)) (fun _ h => by cases h) rfl (fun x36 S35 => ?_)
      refine aw_istore at_188_373 (by decide) rfl rfl ?_
      refine aw_aload at_188_375 rfl ?_
      refine aw_cI at_188_376 rfl (cw_lfM (c_127 (by omega) _)) (fun _ h => by cases h) rfl (fun x38 S37 => ?_)
      refine aw_iload at_188_379 rfl ?_
      refine aw_icmp_eq at_188_381 ?_ ?_
      · refine aw_iload at_188_386 rfl ?_
        refine aw_if_ne at_188_388 ?_ ?_
        · exact aw_sub (al_cons rfl (al_cons rfl (al_cons rfl (al_cons rfl (al_cons rfl al_nil))))) (t_188_403 (by omega) n hH23 l4 S37)
        · refine aw_aload at_188_391 rfl ?_
          refine aw_ic 0 at_188_392 ic_0 ?_
          refine aw_lald at_188_393 ar_67 ?_
          refine aw_iload at_188_394 rfl ?_
          refine aw_i2l at_188_396 ?_
          refine aw_lcmp at_188_397 ?_
          refine aw_if_eq at_188_398 ?_ ?_
          · exact aw_sub (al_cons rfl (al_cons rfl (al_cons rfl (al_cons rfl (al_cons rfl al_nil))))) (t_188_403 (by omega) n hH23 l4 S37)
          · refine aw_ic 0 at_188_401 ic_0 ?_
            exact aw_rZ at_188_402 rfl (Or.inl rfl)
      · refine aw_ic 0 at_188_384 ic_0 ?_
        exact aw_rZ at_188_385 rfl (Or.inl rfl)
    refine aw_case 7 ?_ (fun h107 => ?_)
    · refine aw_tin 406 at_188_39 (by decide) ?_
      refine aw_aload at_188_406 rfl ?_
      refine aw_aload at_188_407 rfl ?_
      refine aw_iload at_188_408 rfl ?_
      refine aw_ic 1 at_188_410 ic_1 ?_
      refine aw_iadd at_188_411 ?_
      refine aw_iald at_188_412 ai_2000 ?_
      refine aw_aload at_188_413 rfl ?_
      refine aw_cI at_188_414 rfl (c_186 (by omega) n _ _) (fun _ h => by cases h) rfl (fun x40 S39 => ?_)
      refine aw_istore at_188_417 (by decide) rfl rfl ?_
      refine aw_aload at_188_419 rfl ?_
      refine aw_aload at_188_420 rfl ?_
      refine aw_iload at_188_421 rfl ?_
      refine aw_ic 1 at_188_423 ic_1 ?_
      refine aw_iadd at_188_424 ?_
      refine aw_iald at_188_425 ai_2000 ?_
      refine aw_cI at_188_426 rfl (cw_lfM (c_179 (by omega) n _ _)) (fun _ h => by cases h) rfl (fun x42 S41 => ?_)
      refine aw_istore at_188_429 (by decide) rfl rfl ?_
      refine aw_aload at_188_431 rfl ?_
      refine aw_cI at_188_432 rfl (cw_lfM (c_127 (by omega) _)) (fun _ h => by cases h) rfl (fun x44 S43 => ?_)
      refine aw_iload at_188_435 rfl ?_
      refine aw_icmp_eq at_188_437 ?_ ?_
      · refine aw_iload at_188_442 rfl ?_
        refine aw_if_ne at_188_444 ?_ ?_
        · exact aw_sub (al_cons rfl (al_cons rfl (al_cons rfl (al_cons rfl (al_cons rfl al_nil))))) (t_188_459 (by omega) n hH23 l4 S43)
        · refine aw_aload at_188_447 rfl ?_
          refine aw_ic 0 at_188_448 ic_0 ?_
          refine aw_lald at_188_449 ar_67 ?_
          refine aw_iload at_188_450 rfl ?_
          refine aw_i2l at_188_452 ?_
          refine aw_lcmp at_188_453 ?_
          refine aw_if_eq at_188_454 ?_ ?_
          · exact aw_sub (al_cons rfl (al_cons rfl (al_cons rfl (al_cons rfl (al_cons rfl al_nil))))) (t_188_459 (by omega) n hH23 l4 S43)
          · refine aw_ic 0 at_188_457 ic_0 ?_
            exact aw_rZ at_188_458 rfl (Or.inl rfl)
      · refine aw_ic 0 at_188_440 ic_0 ?_
        exact aw_rZ at_188_441 rfl (Or.inl rfl)
    refine aw_case 8 ?_ (fun h108 => ?_)
    · refine aw_tin 462 at_188_39 (by decide) ?_
      refine aw_aload at_188_462 rfl ?_
      refine aw_aload at_188_463 rfl ?_
      refine aw_iload at_188_464 rfl ?_
      refine aw_ic 1 at_188_466 ic_1 ?_
      refine aw_iadd at_188_467 ?_
      refine aw_iald at_188_468 ai_2000 ?_
      refine aw_aload at_188_469 rfl ?_
      refine aw_cI at_188_470 rfl (c_187 (by omega) n _ _) (fun _ h => by cases h) rfl (fun x46 S45 => ?_)
      refine aw_istore at_188_473 (by decide) rfl rfl ?_
      refine aw_aload at_188_475 rfl ?_
      refine aw_aload at_188_476 rfl ?_
      refine aw_iload at_188_477 rfl ?_
      refine aw_ic 1 at_188_479 ic_1 ?_
      refine aw_iadd at_188_480 ?_
      refine aw_iald at_188_481 ai_2000 ?_
      refine aw_cI at_188_482 rfl (cw_lfM (c_180 (by omega) n _ _)) (fun _ h => by cases h) rfl (fun x48 S47 => ?_)
      refine aw_istore at_188_485 (by decide) rfl rfl ?_
      refine aw_aload at_188_487 rfl ?_
      refine aw_cI at_188_488 rfl (cw_lfM (c_127 (by omega) _)) (fun _ h => by cases h) rfl (fun x50 S49 => ?_)
      refine aw_iload at_188_491 rfl ?_
      refine aw_icmp_eq at_188_493 ?_ ?_
      · refine aw_iload at_188_498 rfl ?_
        refine aw_if_ne at_188_500 ?_ ?_
        · exact aw_sub (al_cons rfl (al_cons rfl (al_cons rfl (al_cons rfl (al_cons rfl al_nil))))) (t_188_515 (by omega) n hH23 l4 S49)
        · refine aw_aload at_188_503 rfl ?_
          refine aw_ic 0 at_188_504 ic_0 ?_
          refine aw_lald at_188_505 ar_67 ?_
          refine aw_iload at_188_506 rfl ?_
          refine aw_i2l at_188_508 ?_
          refine aw_lcmp at_188_509 ?_
          refine aw_if_eq at_188_510 ?_ ?_
          · exact aw_sub (al_cons rfl (al_cons rfl (al_cons rfl (al_cons rfl (al_cons rfl al_nil))))) (t_188_515 (by omega) n hH23 l4 S49)
          · refine aw_ic 0 at_188_513 ic_0 ?_
            exact aw_rZ at_188_514 rfl (Or.inl rfl)
      · refine aw_ic 0 at_188_496 ic_0 ?_
        exact aw_rZ at_188_497 rfl (Or.inl rfl)
    have h100 := az_ne 0 (n := 0) (by decide) h100
    have h101 := az_ne 1 (n := 1) (by decide) h101
    have h102 := az_ne 2 (n := 2) (by decide) h102
    have h103 := az_ne 3 (n := 3) (by decide) h103
    have h104 := az_ne 4 (n := 4) (by decide) h104
    have h105 := az_ne 5 (n := 5) (by decide) h105
    have h106 := az_ne 6 (n := 6) (by decide) h106
    have h107 := az_ne 7 (n := 7) (by decide) h107
    have h108 := az_ne 8 (n := 8) (by decide) h108
    refine aw_tout at_188_39 (by omega) ?_
    exact aw_sub (al_cons rfl (al_cons rfl (al_cons rfl (al_cons rfl (al_cons rfl al_nil))))) (t_188_518 (by omega) n hH23 l4 S)
theorem t_188_23 {X : amX} {d e : Nat} (hd : 521 ≤ d) : ∀ (n : Nat)  (l4 : Int32) (S : lawS), AW X d am_m188 wl e 23 [(0, .ref 2000), (1, .ref 0), (2, .ref 34), (3, .ref 67), (4, .int l4)] [] S (g_188_23 X n l4 S)
  | 0, _, _ => aw_none
  | n + 1, l4, S => th_188_23 hd n (t_188_23 hd n) l4 S
