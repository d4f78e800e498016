/-! the continuation is kept -/
section KMONO
variable {Sp Rp S R S' R' : amS} {cw cw' : Nat → Int64} {tw tw' : Nat → Nat → Int64} {fm fmu fm' fmu' : Nat → Nat} {nf nf' : Nat} {V V' : Int64 → Int64 → Prop} {B : Nat → Prop}
def agr (S R S' R' : amS) (cw cw' : Nat → Int64) (tw tw' : Nat → Nat → Int64) (fm fmu fm' fmu' : Nat → Nat) (nf nf' : Nat) (V V' : Int64 → Int64 → Prop) (B : Nat → Prop) (w hd T wt : Nat) : Prop :=
  (∀ x, B x → R'.1 56 x = R.1 56 x ∧ R'.1 58 x = R.1 58 x ∧ cw' x = cw x) ∧ (∀ i, i < w → R'.1 60 i = R.1 60 i ∧ R'.1 61 i = R.1 61 i ∧ R'.1 62 i = R.1 62 i ∧ R'.1 63 i = R.1 63 i) ∧ (∀ i, i < hd → R'.2 64 i = R.2 64 i) ∧ (∀ i, i < T → S'.2 31 i = S.2 31 i) ∧ (∀ i, i < wt → S'.1 32 i = S.1 32 i ∧ S'.1 33 i = S.1 33 i) ∧ (∀ j, j < nf → tw' j = tw j ∧ fmu' j = fmu j ∧ fm' j = fm j) ∧ nf ≤ nf' ∧ (∀ v x, V v x → V' v x)
theorem agr_le {w hd T wt w' hd' T' wt' : Nat} (h : agr S R S' R' cw cw' tw tw' fm fmu fm' fmu' nf nf' V V' B w hd T wt) (h1 : w' ≤ w) (h2 : hd' ≤ hd) (h3 : T' ≤ T) (h4 : wt' ≤ wt) : agr S R S' R' cw cw' tw tw' fm fmu fm' fmu' nf nf' V V' B w' hd' T' wt' := by
  obtain ⟨a1, a2, a3, a4, a5, a6, a7, a8⟩ := h
  exact ⟨a1, fun i hi => a2 i (by omega), fun i hi => a3 i (by omega), fun i hi => a4 i (by omega), fun i hi => a5 i (by omega), a6, a7, a8⟩
theorem act_keep {n w hd pc h fn dl b j wt : Nat} {sc : List scE} {ks : List Nat} (hA : agr S R S' R' cw cw' tw tw' fm fmu fm' fmu' nf nf' V V' B w hd (b + h) wt) (hB : ∀ x ∈ ks, B x) (hk : actK Sp S R cw tw fm fmu nf n w hd pc h fn sc ks dl b j wt) : actK Sp S' R' cw' tw' fm' fmu' nf' n w hd pc h fn sc ks dl b j wt := by
  obtain ⟨a1, a2, a3, a4, a5, a6, a7, a8⟩ := hA
  obtain ⟨b1, b2, b3, b4, b5, b6⟩ := hk
  refine ⟨scl_keep b1 (fun k hk => (a1 k (hB k hk)).1), b2, b3, ?_, ?_, b6⟩
  · intro p hp
    have hk := (List.of_mem_zip hp).2
    obtain ⟨c1, c2, c3⟩ := b4 p hp
    rw [(a1 _ (hB _ hk)).2.2]
    refine ⟨fun q => ?_, fun q hf => ?_, c3⟩
    · obtain ⟨s, d1, d2, d3⟩ := c1 q
      exact ⟨s, d1, d2, by rw [a4 _ (by omega)]; exact d3⟩
    · rw [(a6 j (b5 hf).2.1).1]
      exact c2 q hf
  · intro hf
    obtain ⟨d1, d2, d3, d4⟩ := b5 hf
    obtain ⟨-, e2, e3⟩ := a6 j d2
    exact ⟨d1, by omega, by rw [a4 _ (by omega), e3]; exact d3, by rw [e2]; exact d4⟩
set_option maxHeartbeats 1000000 in
theorem KK_keep : ∀ (g : Nat) {n w hd pc h fn dl b j wt : Nat} {sc : List scE} {ks : List Nat} {tl : Bool}, KK Sp Rp S R cw tw fm fmu nf V g n w hd pc h fn sc ks dl b j wt tl → agr S R S' R' cw cw' tw tw' fm fmu fm' fmu' nf nf' V V' B w hd (b + h) wt → (∀ x ∈ ks, B x) → (∀ i l, i < w → chn (R.1 58) (R.1 62 i) l → ∀ x ∈ l, B x) → KK Sp Rp S' R' cw' tw' fm' fmu' nf' V' g n w hd pc h fn sc ks dl b j wt tl
  | 0, _, _, _, _, _, _, _, _, _, _, _, _, _, h, _, _, _ => by unfold KK at h; exact h.elim
  | g + 1, n, w, hd, pc, h, fn, dl, b, j, wt, sc, ks, tl, hK, hA, hB, hW => by
    unfold KK at hK
    obtain ⟨hact, h⟩ := hK
    unfold KK
    refine ⟨act_keep hA hB hact, ?_⟩
    have a1 := hA.1
    have a2 := hA.2.1
    have ck : ∀ {lk : Int32} {l : List Nat}, chn (R.1 58) lk l → (∀ x ∈ l, B x) → chn (R'.1 58) lk l := fun hc hx => chn_keep hc (fun x hm => (a1 x (hx x hm)).2.1)
    rcases h with ⟨q, n', dl', x, c1, c2, c3, c4⟩ | ⟨vs, sc', kv, ks', h', n', dl', x, c1, rfl, rfl, c4, rfl, c5, c6, c7, c8⟩ | ⟨c1, w', wt', pc', b', h', fn', sc', ks', dl', j', tl', n', rfl, rfl, c4, c5, c6, c7, c8, rfl, c9⟩ | c | ⟨ht, w', rfl, hc, m, hm, h61, h⟩
    · exact Or.inl ⟨q, n', dl', x, c1, c2, c3, KK_keep g c4 hA hB hW⟩
    · exact Or.inr (Or.inl ⟨vs, sc', kv, ks', h', n', dl', x, c1, rfl, rfl, c4, rfl, c5, c6, c7, KK_keep g c8 (agr_le hA (Nat.le_refl _) (Nat.le_refl _) (by omega) (Nat.le_refl _)) (fun x hx => hB x (List.mem_append_right _ hx)) hW⟩)
    · obtain ⟨e1, e2, e3, e4⟩ := a2 w' (by omega)
      obtain ⟨f1, f2⟩ := hA.2.2.2.2.1 wt' (by omega)
      refine Or.inr (Or.inr (Or.inl ⟨c1, w', wt', pc', b', h', fn', sc', ks', dl', j', tl', n', rfl, rfl, c4, by rw [e1]; exact c5, ?_, by rw [f1]; exact c7, by rw [f2]; exact c8, rfl, KK_keep g c9 (agr_le hA (by omega) (Nat.le_refl _) (by omega) (by omega)) (hW w' ks' (by omega) c6) (fun i l hi => hW i l (by omega))⟩))
      rw [e3]
      exact ck c6 (hW w' ks' (by omega) c6)
    · exact Or.inr (Or.inr (Or.inr (Or.inl c)))
    · obtain ⟨e1, e2, e3, e4⟩ := a2 w' (by omega)
      have hW' : ∀ i l, i < w' → chn (R.1 58) (R.1 62 i) l → ∀ x ∈ l, B x := fun i l hi => hW i l (by omega)
      refine Or.inr (Or.inr (Or.inr (Or.inr ⟨ht, w', rfl, by rw [e3]; exact ck hc hB, m, hm, by rw [e2]; exact h61, ?_⟩)))
      rw [e1, e4]
      rcases h with ⟨c0, f, rs, q, dl1, dl2, n', tl', c1, c2, c3, c4, c5, c6, c7, c8⟩ | ⟨c0, a, b1, c, q, q2, f, dl1, dl2, n', tl', x, y, c1, c2, c3, c4, c5, c6, c7, c8, c9, d1, d2, d3, d4, d5⟩ | ⟨c0, e, sc', k, ks', h0, a, f, q2, dl1, dl2, n', tl', x, rfl, rfl, rfl, c4, c5, c6, c7, c8, c9, d1, d2, d3, d4, d5, d6, d7, d8, d9, d10⟩ | ⟨c0, e, src, dl2, n', tl', x, c1, c2, c3, c4, c5, c6, c7, c8⟩ | ⟨i, h0, hd0, k, p, q1, cs, qs, f, dl1, dl2, pc2, n', tl', rfl, rfl, c3, c4, c5, c6, c7, c8, c9, d1, d2, d3, d4, d5⟩
      · exact Or.inl ⟨c0, f, rs, q, dl1, dl2, n', tl', c1, c2, c3, c4, c5, c6, c7, KK_keep g c8 (agr_le hA (by omega) (by omega) (by omega) (by omega)) hB hW'⟩
      · exact Or.inr (Or.inl ⟨c0, a, b1, c, q, q2, f, dl1, dl2, n', tl', x, y, c1, c2, c3, c4, c5, c6, c7, c8, c9, d1, d2, d3, d4, KK_keep g d5 (agr_le hA (by omega) (by omega) (by omega) (by omega)) hB hW'⟩)
      · exact Or.inr (Or.inr (Or.inl ⟨c0, e, sc', k, ks', h0, a, f, q2, dl1, dl2, n', tl', x, rfl, rfl, rfl, c4, c5, c6, c7, c8, c9.imp (fun y hy => ⟨hy.1, ((a1 k (hB k List.mem_cons_self)).2.2).trans hy.2⟩), d1, d2, d3, d4, d5, d6, d7, d8, d9, KK_keep g d10 (agr_le hA (by omega) (by omega) (by omega) (by omega)) (fun x hx => hB x (List.mem_cons_of_mem _ hx)) hW'⟩))
      · exact Or.inr (Or.inr (Or.inr (Or.inl ⟨c0, e, src, dl2, n', tl', x, c1, c2, c3, c4, c5, c6, c7, KK_keep g c8 (agr_le hA (by omega) (by omega) (by omega) (by omega)) hB hW'⟩)))
      · refine Or.inr (Or.inr (Or.inr (Or.inr ⟨i, h0, hd0, k, p, q1, cs, qs, f, dl1, dl2, pc2, n', tl', rfl, rfl, c3, c4, c5, c6, c7, c8, fun a ha => ?_, d1, d2, d3, KK_keep g d4 (agr_le hA (by omega) (by omega) (by omega) (by omega)) hB hW', d5⟩)))
        rw [hA.2.2.1 _ (by omega), hA.2.2.2.1 _ (by omega)]
        exact hA.2.2.2.2.2.2.2 _ _ (c9 a ha)
theorem KK_act {g n w hd pc h fn dl b j wt : Nat} {sc : List scE} {ks : List Nat} {tl : Bool} (hK : KK Sp Rp S R cw tw fm fmu nf V g n w hd pc h fn sc ks dl b j wt tl) : actK Sp S R cw tw fm fmu nf n w hd pc h fn sc ks dl b j wt := by
  cases g with
  | zero => unfold KK at hK; exact hK.elim
  | succ g => unfold KK at hK; exact hK.1
/-- more lists around it, more room for what waits -/
theorem KK_dl {g n w hd pc h fn dl b j wt : Nat} {sc : List scE} {ks : List Nat} {tl : Bool} {dl' : Nat} (hK : KK Sp Rp S R cw tw fm fmu nf V g n w hd pc h fn sc ks dl b j wt tl) (h1 : dl ≤ dl') (h2 : dl' ≤ 20) : KK Sp Rp S R cw tw fm fmu nf V g n w hd pc h fn sc ks dl' b j wt tl := by
  cases g with
  | zero => unfold KK at hK; exact hK.elim
  | succ g =>
    unfold KK at hK
    unfold KK
    obtain ⟨⟨b1, b2, b3, b4, b5, b6, b7, b8, b9, b10, b11, b12, b13⟩, h⟩ := hK
    refine ⟨⟨b1, b2, b3, b4, b5, b6, b7, by omega, h2, b10, by omega, by omega, b13⟩, ?_⟩
    rcases h with ⟨q, n', dl0, x, c1, c2, c3, c4⟩ | ⟨vs, sc', kv, ks', h', n', dl0, x, c1, c2, c3, c4, c5, c6, c7, c8, c9⟩ | c | c | ⟨ht, w', hw, hc, m, hm, h61, h⟩
    · exact Or.inl ⟨q, n', dl0, x, c1, c2, by omega, c4⟩
    · exact Or.inr (Or.inl ⟨vs, sc', kv, ks', h', n', dl0, x, c1, c2, c3, c4, c5, c6, c7, by omega, c9⟩)
    · exact Or.inr (Or.inr (Or.inl c))
    · exact Or.inr (Or.inr (Or.inr (Or.inl c)))
    · refine Or.inr (Or.inr (Or.inr (Or.inr ⟨ht, w', hw, hc, m, hm, h61, ?_⟩)))
      rcases h with ⟨c0, f, rs, q, dl1, dl2, n', tl', c1, c2, c3, c4⟩ | ⟨c0, a, b1, c, q, q2, f, dl1, dl2, n', tl', x, y, c1, c2, c3, c4, c5, c6, c7, c8, c9, d1, d2, d3⟩ | ⟨c0, e, sc', k, ks', h0, a, f, q2, dl1, dl2, n', tl', x, c1, c2, c3, c4, c5, c6, c7, c8, c9, d1, d2, d3, d4, d5, d6, d7, d8⟩ | ⟨c0, e, src, dl2, n', tl', x, c1, c2, c3, c4, c5, c6, c7⟩ | ⟨i, h0, hd0, k, p, q1, cs, qs, f, dl1, dl2, pc2, n', tl', c1, c2, c3, c4, c5, c6, c7, c8, c9, d1, d2⟩
      · exact Or.inl ⟨c0, f, rs, q, dl1, dl2, n', tl', c1, c2, by omega, c4⟩
      · exact Or.inr (Or.inl ⟨c0, a, b1, c, q, q2, f, dl1, dl2, n', tl', x, y, c1, c2, c3, c4, c5, c6, c7, c8, c9, d1, by omega, d3⟩)
      · exact Or.inr (Or.inr (Or.inl ⟨c0, e, sc', k, ks', h0, a, f, q2, dl1, dl2, n', tl', x, c1, c2, c3, c4, c5, c6, c7, c8, c9, d1, d2, d3, d4, d5, d6, by omega, d8⟩))
      · exact Or.inr (Or.inr (Or.inr (Or.inl ⟨c0, e, src, dl2, n', tl', x, c1, c2, c3, c4, c5, by omega, c7⟩)))
      · exact Or.inr (Or.inr (Or.inr (Or.inr ⟨i, h0, hd0, k, p, q1, cs, qs, f, dl1, dl2, pc2, n', tl', c1, c2, c3, c4, c5, c6, c7, c8, c9, by omega, d2⟩)))
/-- at the end of a function nothing waits but the call itself -/
theorem KK_tail : ∀ (g : Nat) {n w hd pc h fn dl b j wt : Nat} {sc : List scE} {ks : List Nat}, KK Sp Rp S R cw tw fm fmu nf V g n w hd pc h fn sc ks dl b j wt true →
    ∃ g' w' wt' pc' b' h' fn' sc' ks' dl' j' tl' n', w = w' + 1 ∧ wt = wt' + 1 ∧ n' + 1 ≤ n ∧ R.1 60 w' = 6 ∧ chn (R.1 58) (R.1 62 w') ks' ∧ S.1 32 wt' = nI pc' ∧ S.1 33 wt' = nI b' ∧ b = b' + h' + 1 ∧ KK Sp Rp S R cw tw fm fmu nf V g' n' w' hd pc' h' fn' sc' ks' dl' b' j' wt' tl'
  | 0, _, _, _, _, _, _, _, _, _, _, _, _, h => by unfold KK at h; exact h.elim
  | g + 1, n, w, hd, pc, h, fn, dl, b, j, wt, sc, ks, hK => by
    unfold KK at hK
    obtain ⟨hact, h⟩ := hK
    rcases h with ⟨q, n', dl', x, c1, c2, c3, c4⟩ | ⟨vs, sc', kv, ks', h', n', dl', x, c1, c2, c3, c4, c5, c6, c7, c8, c9⟩ | ⟨c1, w', wt', pc', b', h', fn', sc', ks', dl', j', tl', n', c2, c3, c4, c5, c6, c7, c8, c9, d1⟩ | ⟨c, -⟩ | ⟨c, -⟩
    · obtain ⟨g', w', wt', pc', b', h', fn', sc', ks', dl', j', tl', n', d1, d2, d3, d4⟩ := KK_tail g c4
      exact ⟨g', w', wt', pc', b', h', fn', sc', ks', dl', j', tl', n', d1, d2, by omega, d4⟩
    · obtain ⟨g', w', wt', pc', b', h', fn', sc', ks', dl', j', tl', n', d1, d2, d3, d4⟩ := KK_tail g c9
      exact ⟨g', w', wt', pc', b', h', fn', sc', ks', dl', j', tl', n', d1, d2, by omega, d4⟩
    · exact ⟨g, w', wt', pc', b', h', fn', sc', ks', dl', j', tl', n', c2, c3, c4, c5, c6, c7, c8, c9, d1⟩
    · cases c
    · cases c
/-- how many links what waits can reach -/
theorem KK_reach : ∀ (g : Nat) {n w hd pc h fn dl b j wt : Nat} {sc : List scE} {ks : List Nat} {tl : Bool}, KK Sp Rp S R cw tw fm fmu nf V g n w hd pc h fn sc ks dl b j wt tl → ∃ L : List Nat, L.length ≤ 58 * wt ∧ ∀ i, i < w → ∃ l, chn (R.1 58) (R.1 62 i) l ∧ ∀ x ∈ l, x ∈ ks ∨ x ∈ L
  | 0, _, _, _, _, _, _, _, _, _, _, _, _, _, h => by unfold KK at h; exact h.elim
  | g + 1, n, w, hd, pc, h, fn, dl, b, j, wt, sc, ks, tl, hK => by
    unfold KK at hK
    obtain ⟨hact, h⟩ := hK
    rcases h with ⟨q, n', dl', x, c1, c2, c3, c4⟩ | ⟨vs, sc', kv, ks', h', n', dl', x, c1, rfl, rfl, c4, c5, c6, c7, c8, c9⟩ | ⟨c1, w', wt', pc', b', h', fn', sc', ks', dl', j', tl', n', rfl, rfl, c4, c5, c6, c7, c8, c9, d1⟩ | ⟨-, rfl, rfl, -⟩ | ⟨ht, w', rfl, hc, m, hm, h61, h⟩
    · exact KK_reach g c4
    · obtain ⟨L, l1, l2⟩ := KK_reach g c9
      refine ⟨L, l1, fun i hi => ?_⟩
      obtain ⟨l, e1, e2⟩ := l2 i hi
      exact ⟨l, e1, fun x hx => (e2 x hx).elim (fun q => Or.inl (List.mem_append_right _ q)) Or.inr⟩
    · obtain ⟨L, l1, l2⟩ := KK_reach g d1
      have e := KK_act d1
      have e1 := scl_len e.1
      have e2 := e.2.2.1
      refine ⟨ks' ++ L, by rw [List.length_append]; omega, fun i hi => ?_⟩
      by_cases hq : i = w'
      · subst hq
        exact ⟨ks', c6, fun x hx => Or.inr (List.mem_append_left _ hx)⟩
      · obtain ⟨l, e1, e2⟩ := l2 i (by omega)
        exact ⟨l, e1, fun x hx => Or.inr ((e2 x hx).elim (fun q => List.mem_append_left _ q) (fun q => List.mem_append_right _ q))⟩
    · exact ⟨[], by simp, fun i hi => absurd hi (by omega)⟩
    · have fin : ∀ {n' hd' pc' h' dl' : Nat} {sc' : List scE} {ks' : List Nat} {tl' : Bool}, KK Sp Rp S R cw tw fm fmu nf V g n' w' hd' pc' h' fn sc' ks' dl' b j wt tl' → (∀ x ∈ ks', x ∈ ks) → ∃ L : List Nat, L.length ≤ 58 * wt ∧ ∀ i, i < w' + 1 → ∃ l, chn (R.1 58) (R.1 62 i) l ∧ ∀ x ∈ l, x ∈ ks ∨ x ∈ L := by
        intro n' hd' pc' h' dl' sc' ks' tl' hk hs
        obtain ⟨L, l1, l2⟩ := KK_reach g hk
        refine ⟨L, l1, fun i hi => ?_⟩
        by_cases hq : i = w'
        · subst hq
          exact ⟨ks, hc, fun x hx => Or.inl hx⟩
        · obtain ⟨l, e1, e2⟩ := l2 i (by omega)
          exact ⟨l, e1, fun x hx => (e2 x hx).elim (fun q => Or.inl (hs x q)) Or.inr⟩
      rcases h with ⟨c0, f, rs, q, dl1, dl2, n', tl', c1, c2, c3, c4, c5, c6, c7, c8⟩ | ⟨c0, a, b1, c, q, q2, f, dl1, dl2, n', tl', x, y, c1, c2, c3, c4, c5, c6, c7, c8, c9, d1, d2, d3, d4, d5⟩ | ⟨c0, e, sc', k, ks', h0, a, f, q2, dl1, dl2, n', tl', x, rfl, rfl, c3, c4, c5, c6, c7, c8, c9, d1, d2, d3, d4, d5, d6, d7, d8, d9, d10⟩ | ⟨c0, e, src, dl2, n', tl', x, c1, c2, c3, c4, c5, c6, c7, c8⟩ | ⟨i, h0, hd0, k, p, q1, cs, qs, f, dl1, dl2, pc2, n', tl', c1, c2, c3, c4, c5, c6, c7, c8, c9, d1, d2, d3, d4, d5⟩
      · exact fin c8 (fun x hx => hx)
      · exact fin d5 (fun x hx => hx)
      · exact fin d10 (fun x hx => List.mem_cons_of_mem _ hx)
      · exact fin c8 (fun x hx => hx)
      · exact fin d4 (fun x hx => hx)
end KMONO
