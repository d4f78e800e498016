/-! variables are bound, both sides -/
section RBIND
variable {Sp Rp T U S R S0 R0 S' R' : amS} {cw cw0 : Nat → Int64} {tw : Nat → Nat → Int64} {pm fm fmu : Nat → Nat} {np nf : Nat} {own : Nat → Nat × Nat} {fks : Nat → List Nat} {md tc : Nat} {A : Nat → Prop} {w hd b wt : Nat}
theorem pigL : ∀ (n : Nat) (L : List Nat), L.length < n → ∃ x, x < n ∧ x ∉ L
  | 0, L, h => absurd h (Nat.not_lt_zero _)
  | n + 1, L, h => by
    by_cases hn : n ∈ L
    · have h1 := List.length_erase_of_mem hn
      have hp : 0 < L.length := List.length_pos_of_mem hn
      obtain ⟨x, x1, x2⟩ := pigL n (L.erase n) (by omega)
      exact ⟨x, by omega, fun hx => x2 ((List.mem_erase_of_ne (by omega)).mpr hx)⟩
    · exact ⟨n, by omega, hn⟩
def allF (fks : Nat → List Nat) : Nat → List Nat
  | 0 => []
  | n + 1 => fks n ++ allF fks n
theorem allF_len {fks : Nat → List Nat} : ∀ n, (∀ j, j < n → (fks j).length ≤ 58) → (allF fks n).length ≤ 58 * n
  | 0, _ => Nat.le_refl _
  | n + 1, h => by
    have h1 := allF_len n (fun j hj => h j (by omega))
    have h2 := h n (by omega)
    show (fks n ++ allF fks n).length ≤ _
    rw [List.length_append]
    omega
theorem allF_mem {fks : Nat → List Nat} : ∀ n j x, j < n → x ∈ fks j → x ∈ allF fks n
  | 0, j, _, h, _ => absurd h (Nat.not_lt_zero _)
  | n + 1, j, x, h, hx => by
    show x ∈ fks n ++ allF fks n
    by_cases hj : j = n
    · subst hj; exact List.mem_append_left _ hx
    · exact List.mem_append_right _ (allF_mem n j x (by omega) hx)
theorem fks_len (hG : GJ Sp Rp T U S R cw tw pm fm fmu np nf own fks md tc A) : ∀ j, j < nf → (fks j).length ≤ 58 := by
  intro j hj
  obtain ⟨-, -, ⟨m, -, f, dl, pe, q1, c0, vs, sc, a1, a2, a3, a4, a5, a6, a7, a8, a9, a10, a11, -⟩, -⟩ := hG.2.2.2.1.2 j hj
  have h1 := (TT_hd f a8).2.2.2.1
  rw [List.length_append, scl_len a11] at h1
  omega
def upw (f : Nat → Int64) (n : Nat) (v : Int64) : Nat → Int64 := fun i => if i = n then v else f i
theorem alloc1 {kk L : List Nat} {lw : Nat → List Nat} {rv : Int32} {v : Int64} (hG : GJ Sp Rp T U S R cw tw pm fm fmu np nf own fks md tc A) (hC : chn (R.1 58) (R.1 34 52) kk) (hkA : ∀ x ∈ kk, A x) (hw : w ≤ 8000) (h49 : R.1 34 49 = nI w) (hlw : ∀ i, i < w → chn (R.1 58) (R.1 62 i) (lw i)) (hlA : ∀ i, i < w → ∀ x ∈ lw i, A x) (hL : ∀ i, i < w → ∀ x ∈ lw i, x ∈ kk ∨ x ∈ L) (hlen : kk.length + L.length ≤ 3538) :
    ∃ R' k, G_162 rv v (R.1 34 52) R = some (.inl (some (.int (nI k))), R') ∧ k < 120000 ∧ ((∀ a, a ≠ 34 → a ≠ 56 → a ≠ 58 → a ≠ 59 → R'.1 a = R.1 a) ∧ (∀ j, j ≠ 44 → R'.1 34 j = R.1 34 j) ∧ (∀ a, a ≠ 57 → R'.2 a = R.2 a) ∧ R'.1 56 k = rv ∧ R'.1 58 k = R.1 34 52) ∧
      (∀ x, rch kk kk w nf lw fks x → x ≠ k ∧ R'.1 56 x = R.1 56 x ∧ R'.1 58 x = R.1 58 x) ∧
      ∀ (S' : amS) (cw' : Nat → Int64) (own' : Nat → Nat × Nat) (md' : Nat), (∀ a, a ≤ 22 → S'.1 a = S.1 a) → S'.1 25 3 = nI md' → md' ≤ 2000 → S'.1 25 4 = S.1 25 4 → md ≤ md' → (∀ z, z < md → S'.2 26 z = S.2 26 z) → (∀ z, z < md → S'.2 27 z = S.2 27 z) → S'.2 28 = S.2 28 → (∀ z, z < md → own' z = own z) → (∀ x, x ≠ k → cw' x = cw x) → ((∃ x, x < md' ∧ cw' k = vE 4 x ∧ own' x = (4, k) ∧ vR pm fm np nf v (S'.2 26 x)) ∨ vR pm fm np nf v (cw' k)) →
        GJ Sp Rp T U S' (sI R' 34 52 (nI k)) cw' tw pm fm fmu np nf own' fks md' tc (fun x => x = k ∨ rch kk kk w nf lw fks x) := by
  have hG0 := hG
  obtain ⟨g1, ⟨c1, c2, c3, c4, c5, c6, c7⟩, g3, g4, g5, fl, f1, f2, f3⟩ := hG0
  have hrA : ∀ x, rch kk kk w nf lw fks x → A x := by
    rintro x (h | h | ⟨i, hi, h⟩ | ⟨i, hi, h⟩)
    · exact hkA x h
    · exact hkA x h
    · exact hlA i hi x h
    · exact (g4.2 i hi).2.2.2 x h
  have hpg : ∃ n, n < 120000 ∧ ¬ rch kk kk w nf lw fks n := by
    have h1 := allF_len nf (fks_len hG)
    obtain ⟨x, x1, x2⟩ := pigL 120000 (kk ++ L ++ allF fks nf) (by rw [List.length_append, List.length_append]; omega)
    refine ⟨x, x1, fun h => x2 ?_⟩
    rcases h with h | h | ⟨i, hi, h⟩ | ⟨i, hi, h⟩
    · exact List.mem_append_left _ (List.mem_append_left _ h)
    · exact List.mem_append_left _ (List.mem_append_left _ h)
    · rcases hL i hi x h with h | h
      · exact List.mem_append_left _ (List.mem_append_left _ h)
      · exact List.mem_append_left _ (List.mem_append_right _ h)
    · exact List.mem_append_right _ (allF_mem nf i x hi h)
  have hlf : ∀ i, i < nf → chn (R.1 58) (R.1 55 i) (fks i) := fun i hi => by
    obtain ⟨-, -, ⟨m, -, f, dl, pe, q1, c0, vs, sc, a1, a2, a3, a4, a5, a6, a7, a8, a9, a10, a11, a12, -⟩, -⟩ := g4.2 i hi
    exact a12
  obtain ⟨R', k, q1, q2, q3, q4, q5, q6, q7, q8, q9, q10, q11, q12⟩ := alloc_m (R := R) (v := rv) (x := v) (ll := kk) (la := kk) (w := w) (nf := nf) (lw := lw) (lf := fks) hC hC hw h49 hlw (by omega) c4 hlf ⟨fl, f1, f2, fun n hn h => f3 n hn (hrA n h)⟩ hpg
  have hne : ∀ x, rch kk kk w nf lw fks x → x ≠ k := fun x hx h => q3 (h ▸ hx)
  refine ⟨R', k, q1, q2, ⟨q4, q5, q6, q9, q11⟩, fun x hx => ⟨hne x hx, (q7 x (hne x hx)).1, q8 x hx⟩, ?_⟩
  intro S' cw' own' md' s1 s2 s3 s4 s5 s6 s7 s8 s9 s10 s11
  refine GI_up hG ⟨fun a ha => (s1 a (by omega)).trans (g1.1 a ha), ⟨(s1 21 (by omega)).trans g1.2.1.1, (s1 22 (by omega)).trans g1.2.1.2⟩, fun a h1 h2 => ?_, ?_, ?_, ?_⟩ ⟨s2, s3, ?_, ?_, by omega, s4.trans c6, c7⟩ s6 s7 (fun z _ => by rw [s8]) s9 ⟨Nat.le_refl _, Nat.le_refl _, s5, Nat.le_refl _⟩ (fun _ _ => rfl) (fun j hj => ⟨rfl, rfl, rfl, rfl, ?_, ?_⟩) (fun i hi => ⟨?_, ?_⟩) (fun j hj z hz => ?_) (fun i h1 h2 => absurd h2 (by omega)) (fun i h1 h2 => absurd h2 (by omega)) (fun z hz => ?_) ?_
  · rw [sI_row, if_neg (by omega), q4 a (by omega) (by omega) (by omega) (by omega)]; exact g1.2.2.1 a h1 h2
  · rw [sI_row, if_neg (by omega), q4 35 (by omega) (by omega) (by omega) (by omega)]; exact g1.2.2.2.1
  · rw [sI_nk _ (by decide), q5 0 (by decide)]; exact g1.2.2.2.2.1
  · rw [sI_nk _ (by decide), q5 2 (by decide)]; exact g1.2.2.2.2.2
  · rw [sI_nk _ (by decide), q5 36 (by decide)]; exact c3
  · rw [sI_nk _ (by decide), q5 39 (by decide)]; exact c4
  · rw [sI_na _ (by decide), q4 54 (by decide) (by decide) (by decide) (by decide)]
  · rw [sI_na _ (by decide), q4 55 (by decide) (by decide) (by decide) (by decide)]
  · show R'.2 52 i = _
    rw [q6 52 (by decide)]
  · show R'.2 53 i = _
    rw [q6 53 (by decide)]
  · have hz' : rch kk kk w nf lw fks z := Or.inr (Or.inr (Or.inr ⟨j, hj, hz⟩))
    exact ⟨⟨s10 z (hne z hz'), by rw [sI_na _ (by decide)]; exact (q7 z (hne z hz')).1, by rw [sI_na _ (by decide)]; exact q8 z hz'⟩, Or.inr hz'⟩
  · show _ ∨ vR pm fm np nf (R'.2 57 z) (cw' z)
    rcases hz with hz | hz
    · rw [hz, show (sI R' 34 52 (nI k)).2 57 k = v from q10, q10]
      exact s11
    · rw [s10 z (hne z hz), show (sI R' 34 52 (nI k)).2 57 z = R.2 57 z from (q7 z (hne z hz)).2, (q7 z (hne z hz)).2]
      rcases g5 z (hrA z hz) with ⟨x, h1, h2, h3, h4⟩ | h
      · exact Or.inl ⟨x, by omega, h2, by rw [s9 x h1]; exact h3, by rw [s6 x h1]; exact h4⟩
      · exact Or.inr h
  · obtain ⟨fl2, y1, y2, y3⟩ := q12
    refine ⟨fl2, ?_, y2, y3⟩
    rw [sI_nk _ (by decide), sI_row, if_neg (by decide)]
    exact y1
/-- what must stay while variables are bound -/
def BB (R0 : amS) (w : Nat) (ks : List Nat) (x : Nat) : Prop := x ∈ ks ∨ ∃ i l, i < w ∧ chn (R0.1 58) (R0.1 62 i) l ∧ x ∈ l
/-- vd are bound, to the links kd -/
def BI (Sp Rp T U S0 R0 S R : amS) (cw0 cw : Nat → Int64) (tw : Nat → Nat → Int64) (pm fm fmu : Nat → Nat) (np nf : Nat) (own : Nat → Nat × Nat) (fks : Nat → List Nat) (md tc : Nat) (A : Nat → Prop) (vd : List scE) (kd ks : List Nat) (b s0 kn hx w hd wt : Nat) : Prop :=
  GJ Sp Rp T U S R cw tw pm fm fmu np nf own fks md tc A ∧ chn (R.1 58) (R.1 34 52) (kd ++ ks) ∧ vd.length = kd.length ∧ scl (R.1 56) vd kd ∧
  (∀ p ∈ vd.zip kd, (∃ s, Sp.1 7 p.1.2.1 = nI s ∧ s0 ≤ s ∧ s < s0 + vd.length ∧ S.2 31 (b + s) = cw p.2) ∧ (Sp.1 9 p.1.2.1 = 1 → ∃ x, x < 2000 ∧ cw p.2 = vE 4 x)) ∧
  (∀ a, vd.length ≤ a → a < kn → vR pm fm np nf (R.2 64 (hx + a)) (S.2 31 (b + (s0 + a)))) ∧
  ((∀ x ∈ kd ++ ks, A x) ∧ ∀ x, BB R0 w ks x → A x) ∧
  agr S0 R0 S R cw0 cw tw tw fm fmu fm fmu nf nf (vR pm fm np nf) (vR pm fm np nf) (BB R0 w ks) w hd (b + s0) wt ∧
  ((∀ k, k ≠ 44 → k ≠ 52 → R.1 34 k = R0.1 34 k) ∧ (∀ a, a ≠ 34 → a ≠ 56 → a ≠ 58 → a ≠ 59 → R.1 a = R0.1 a) ∧ (∀ a, a ≠ 57 → R.2 a = R0.2 a)) ∧ (∀ a, a ≠ 24 → a ≠ 25 → S.1 a = S0.1 a) ∧ (∀ k, k ≠ 10 → S.1 24 k = S0.1 24 k)
theorem BI_nx {vd : List scE} {kd ks : List Nat} {s0 kn hx p : Nat} (h : BI Sp Rp T U S0 R0 S R cw0 cw tw pm fm fmu np nf own fks md tc A vd kd ks b s0 kn hx w hd wt) : BI Sp Rp T U S0 R0 (nx S p) R cw0 cw tw pm fm fmu np nf own fks md tc A vd kd ks b s0 kn hx w hd wt := by
  obtain ⟨h1, h2, h3, h4, h5, h6, h7, h8, h9, h10, h11⟩ := h
  refine ⟨GI_keep h1 (cQ_G (cG_F nx_F)) (mQ_F mF_refl), h2, h3, h4, h5, h6, h7, h8, h9, fun a ha hb => ?_, fun k hk => ?_⟩
  · unfold nx
    rw [sI_row, if_neg ha]
    exact h10 a ha hb
  · unfold nx
    rw [sI_nk _ hk]
    exact h11 k hk
theorem BI_step {vd : List scE} {kd ks L : List Nat} {lw : Nat → List Nat} {s0 kn hx m c0 fn : Nat} {e : scE} {y : Int32} (h : BI Sp Rp T U S0 R0 S R cw0 cw tw pm fm fmu np nf own fks md tc A vd kd ks b s0 kn hx w hd wt) (hbn : bnd Sp Rp m c0 s0 fn (e :: vd)) (hkn : vd.length < kn) (hb : S.1 24 9 = nI b) (hs : b + (s0 + vd.length) < 6405) (hw : w ≤ 8000) (h49 : R0.1 34 49 = nI w) (hlw : ∀ i, i < w → chn (R0.1 58) (R0.1 62 i) (lw i) ∧ ∀ x ∈ lw i, x ∈ ks ∨ x ∈ L) (hlen : (kd ++ ks).length + L.length ≤ 3538) (hmd : Sp.1 9 e.2.1 = 1 → md < 2000) :
    ∃ S' R' k cw' own' md' A', g_43 (nI (c0 + vd.length)) y S = some (.inl none, S') ∧ G_162 (nI e.2.2.1) (R.2 64 (hx + vd.length)) (R.1 34 52) R = some (.inl (some (.int (nI k))), R') ∧ (∀ a, a ≠ 25 → S'.1 a = S.1 a) ∧ md' = md + (if Sp.1 9 e.2.1 = 0 then 0 else 1) ∧
      BI Sp Rp T U S0 R0 S' (sI R' 34 52 (nI k)) cw0 cw' tw pm fm fmu np nf own' fks md' tc A' (e :: vd) (k :: kd) ks b s0 kn hx w hd wt := by
  obtain ⟨h1, h2, h3, h4, h5, h6, ⟨h7, h7b⟩, h8, ⟨h9, h9b, h9c⟩, h10, h11⟩ := h
  obtain ⟨n1, n2, n3, n4, n5, n6, n7, n8, n9⟩ := hbn
  have hv := h6 vd.length (Nat.le_refl _) hkn
  have hBl : ∀ i, i < w → ∀ x ∈ lw i, BB R0 w ks x := fun i hi x hx => Or.inr ⟨i, lw i, hi, (hlw i hi).1, hx⟩
  have hlw' : ∀ i, i < w → chn (R.1 58) (R.1 62 i) (lw i) := fun i hi => by
    rw [(h8.2.1 i hi).2.2.1]
    exact chn_keep (hlw i hi).1 (fun x hx => (h8.1 x (hBl i hi x hx)).2.1)
  obtain ⟨R', k, r1, r2, ⟨r3, r4, r5, r6, r7⟩, r8, r9⟩ := alloc1 (rv := nI e.2.2.1) (v := R.2 64 (hx + vd.length)) (kk := kd ++ ks) (L := L) (lw := lw) h1 h2 h7 hw (by rw [h9 49 (by decide) (by decide)]; exact h49) hlw' (fun i hi x hx => h7b x (hBl i hi x hx)) (fun i hi x hx => ((hlw i hi).2 x hx).elim (fun h => Or.inl (List.mem_append_right _ h)) Or.inr) hlen
  have hgB : ∀ x, BB R0 w ks x → rch (kd ++ ks) (kd ++ ks) w nf lw fks x := by
    rintro x (h | ⟨i, l, hi, hc, hx⟩)
    · exact Or.inl (List.mem_append_right _ h)
    · rw [chn_det hc (hlw i hi).1] at hx
      exact Or.inr (Or.inr (Or.inl ⟨i, hi, hx⟩))
  have hgk : ∀ x ∈ kd ++ ks, rch (kd ++ ks) (kd ++ ks) w nf lw fks x := fun x hx => Or.inl hx
  have s7 : S.1 7 e.2.1 = nI (s0 + vd.length) := by rw [h1.1.1 7 (by decide)]; exact n4
  have s9 : S.1 9 e.2.1 = Sp.1 9 e.2.1 := by rw [h1.1.1 9 (by decide)]
  -- what both cases share
  have fin : ∀ (S' : amS) (cw' : Nat → Int64) (own' : Nat → Nat × Nat) (md' : Nat), GJ Sp Rp T U S' (sI R' 34 52 (nI k)) cw' tw pm fm fmu np nf own' fks md' tc (fun x => x = k ∨ rch (kd ++ ks) (kd ++ ks) w nf lw fks x) → (∀ a, a ≠ 25 → S'.1 a = S.1 a) → (∀ z, z ≠ b + (s0 + vd.length) → S'.2 31 z = S.2 31 z) → S'.2 31 (b + (s0 + vd.length)) = cw' k → (∀ x, x ≠ k → cw' x = cw x) → (Sp.1 9 e.2.1 = 1 → ∃ x, x < 2000 ∧ cw' k = vE 4 x) → BI Sp Rp T U S0 R0 S' (sI R' 34 52 (nI k)) cw0 cw' tw pm fm fmu np nf own' fks md' tc (fun x => x = k ∨ rch (kd ++ ks) (kd ++ ks) w nf lw fks x) (e :: vd) (k :: kd) ks b s0 kn hx w hd wt := by
    intro S' cw' own' md' hG' z1 z2 z3 z4 z5
    have e58 : ∀ x, (sI R' 34 52 (nI k)).1 58 x = R'.1 58 x := fun x => sI_na _ (by decide)
    have e56 : ∀ x, (sI R' 34 52 (nI k)).1 56 x = R'.1 56 x := fun x => sI_na _ (by decide)
    refine ⟨hG', ⟨sI_eq _ _ _ _, r2, ?_⟩, by rw [List.length_cons, List.length_cons, h3], ⟨by rw [e56]; exact r6, scl_keep h4 (fun x hx => by rw [e56]; exact (r8 x (hgk x (List.mem_append_left _ hx))).2.1)⟩, fun p hp => ?_, fun a ha hk => ?_, ⟨fun x hx => ?_, fun x hx => Or.inr (hgB x hx)⟩, ⟨fun x hx => ?_, fun i hi => ?_, fun i hi => ?_, fun i hi => ?_, fun i hi => ?_, h8.2.2.2.2.2.1, h8.2.2.2.2.2.2⟩, ⟨fun z hz hz2 => ?_, fun a a1 a2 a3 a4 => ?_, fun a ha => ?_⟩, fun a a1 a2 => ?_, fun z hz => ?_⟩
    · rw [e58, r7]
      exact chn_keep h2 (fun x hx => by rw [e58]; exact (r8 x (hgk x hx)).2.2)
    · rw [List.zip_cons_cons] at hp
      rw [List.length_cons]
      rcases List.mem_cons.mp hp with rfl | hp
      · exact ⟨⟨s0 + vd.length, n4, by omega, by omega, z3⟩, z5⟩
      · obtain ⟨⟨s, q1, q2, q3, q4⟩, q5⟩ := h5 p hp
        have hpk : p.2 ≠ k := (r8 p.2 (hgk _ (List.mem_append_left _ (List.of_mem_zip hp).2))).1
        rw [z4 _ hpk]
        exact ⟨⟨s, q1, q2, by omega, by rw [z2 _ (by omega)]; exact q4⟩, q5⟩
    · rw [List.length_cons] at ha
      rw [show (sI R' 34 52 (nI k)).2 64 = R.2 64 from r5 64 (by decide), z2 _ (by omega)]
      exact h6 a (by omega) hk
    · rcases List.mem_cons.mp hx with rfl | hx
      · exact Or.inl rfl
      · exact Or.inr (hgk x hx)
    · have hr := r8 x (hgB x hx)
      have ho := h8.1 x hx
      exact ⟨by rw [e56, hr.2.1]; exact ho.1, by rw [e58, hr.2.2]; exact ho.2.1, by rw [z4 x hr.1]; exact ho.2.2⟩
    · have ho := h8.2.1 i hi
      have er : ∀ a, a = 60 ∨ a = 61 ∨ a = 62 ∨ a = 63 → (sI R' 34 52 (nI k)).1 a i = R.1 a i := fun a ha => by rw [sI_na _ (by omega), r3 a (by omega) (by omega) (by omega) (by omega)]
      exact ⟨(er 60 (by omega)).trans ho.1, (er 61 (by omega)).trans ho.2.1, (er 62 (by omega)).trans ho.2.2.1, (er 63 (by omega)).trans ho.2.2.2⟩
    · rw [show (sI R' 34 52 (nI k)).2 64 = R.2 64 from r5 64 (by decide)]
      exact h8.2.2.1 i hi
    · rw [z2 i (by omega)]
      exact h8.2.2.2.1 i hi
    · rw [z1 32 (by decide), z1 33 (by decide)]
      exact h8.2.2.2.2.1 i hi
    · rw [sI_nk _ hz2, r4 z hz]
      exact h9 z hz hz2
    · rw [sI_row, if_neg a1, r3 a a1 a2 a3 a4]
      exact h9b a a1 a2 a3 a4
    · show R'.2 a = _
      rw [r5 a ha]
      exact h9c a ha
    · rw [z1 a a2]
      exact h10 a a1 a2
    · rw [z1 24 (by decide)]
      exact h11 z hz
  have hc1 : c0 + vd.length = e.2.1 := n1.symm
  rw [hc1]
  rcases n6 with h0 | h0
  · refine ⟨S, R', k, upw cw k (S.2 31 (b + (s0 + vd.length))), own, md, _, box_no n7 (by rw [s9]; exact h0), r1, fun _ _ => rfl, by rw [if_pos h0, Nat.add_zero], fin S _ own md (r9 S _ own md (fun _ _ => rfl) h1.2.1.1 h1.2.1.2.1 rfl (Nat.le_refl _) (fun _ _ => rfl) (fun _ _ => rfl) rfl (fun _ _ => rfl) (fun x hx => if_neg hx) (Or.inr ?_)) (fun _ _ => rfl) (fun _ _ => rfl) (if_pos rfl).symm (fun x hx => if_neg hx) (fun h9 => by rw [h0] at h9; exact absurd h9 (by decide))⟩
    rw [show upw cw k (S.2 31 (b + (s0 + vd.length))) k = S.2 31 (b + (s0 + vd.length)) from if_pos rfl]
    exact hv
  · have hm := hmd h0
    have hbx := box_yes (y := y) n7 (by rw [s9]; exact h0) s7 hb hs h1.2.1.1 hm
    have q26 : ∀ z, z ≠ md → (bxS S md (b + (s0 + vd.length))).2 26 z = S.2 26 z := fun z hz => by
      unfold bxS mkS
      rw [sJ_na _ (by decide)]
      show (sJ S 26 md (S.2 31 (b + (s0 + vd.length)))).2 26 z = _
      rw [sJ_nk _ hz]
    have q27 : ∀ z, z ≠ md → (bxS S md (b + (s0 + vd.length))).2 27 z = S.2 27 z := fun z hz => by
      unfold bxS mkS
      rw [sJ_na _ (by decide)]
      show (sJ (sJ S 26 md _) 27 md _).2 27 z = _
      rw [sJ_nk _ hz, sJ_na _ (by decide)]
    have a26 : (bxS S md (b + (s0 + vd.length))).2 26 md = S.2 31 (b + (s0 + vd.length)) := by
      unfold bxS mkS
      rw [sJ_na _ (by decide)]
      show (sJ S 26 md (S.2 31 (b + (s0 + vd.length)))).2 26 md = _
      rw [sJ_eq]
    have z1 : ∀ a, a ≠ 25 → (bxS S md (b + (s0 + vd.length))).1 a = S.1 a := fun a ha => by
      unfold bxS mkS
      show (sI (sJ (sJ S 26 md _) 27 md _) 25 3 _).1 a = _
      rw [sI_row, if_neg ha]
      rfl
    have z2 : ∀ z, z ≠ b + (s0 + vd.length) → (bxS S md (b + (s0 + vd.length))).2 31 z = S.2 31 z := fun z hz => by
      unfold bxS
      rw [sJ_nk _ hz]
      rfl
    have z3 : (bxS S md (b + (s0 + vd.length))).2 31 (b + (s0 + vd.length)) = vE 4 md := by
      unfold bxS
      rw [sJ_eq]
    have ek : upw cw k (vE 4 md) k = vE 4 md := if_pos rfl
    refine ⟨_, R', k, upw cw k (vE 4 md), upo own md (4, k), md + 1, _, hbx, r1, z1, by rw [if_neg (by rw [h0]; decide)], fin _ _ _ _ (r9 _ _ _ _ (fun a ha => z1 a (by omega)) rfl (by omega) rfl (by omega) (fun z hz => q26 z (by omega)) (fun z hz => q27 z (by omega)) ?_ (fun z hz => if_neg (by omega)) (fun x hx => if_neg hx) (Or.inl ⟨md, by omega, ek, if_pos rfl, by rw [a26]; exact hv⟩)) z1 z2 (by rw [z3, ek]) (fun x hx => if_neg hx) (fun _ => ⟨md, hm, ek⟩)⟩
    unfold bxS mkS
    funext z
    rw [sJ_na _ (by decide)]
    rfl
/-- boxes among variables -/
def cnB (Sp : amS) : List scE → Nat
  | [] => 0
  | e :: vs => cnB Sp vs + (if Sp.1 9 e.2.1 = 0 then 0 else 1)
theorem cnB_le : ∀ {vs : List scE}, cnB Sp vs ≤ vs.length
  | [] => Nat.le_refl _
  | e :: vs => by
    have := cnB_le (vs := vs)
    show cnB Sp vs + (if Sp.1 9 e.2.1 = 0 then 0 else 1) ≤ vs.length + 1
    split <;> omega
theorem bnd_suf {m c0 s0 fn : Nat} : ∀ {pre vd : List scE}, bnd Sp Rp m c0 s0 fn (pre ++ vd) → bnd Sp Rp m c0 s0 fn vd
  | [], _, h => h
  | _ :: pre, _, h => bnd_suf (pre := pre) h.2.2.2.2.2.2.2.2
theorem bnd_mem {m c0 s0 fn : Nat} : ∀ {vs : List scE}, bnd Sp Rp m c0 s0 fn vs → ∀ e ∈ vs, e.2.2.2 = fn
  | [], _, e, he => by cases he
  | e' :: vs, h, e, he => by
    rcases List.mem_cons.mp he with rfl | he
    · exact h.2.1
    · exact bnd_mem h.2.2.2.2.2.2.2.2 e he
theorem cnB_app : ∀ {r s : List scE}, cnB Sp (r ++ s) = cnB Sp r + cnB Sp s
  | [], s => (Nat.zero_add (cnB Sp s)).symm
  | e :: r, s => by
    have := cnB_app (r := r) (s := s)
    show cnB Sp (r ++ s) + (if Sp.1 9 e.2.1 = 0 then 0 else 1) = cnB Sp r + (if Sp.1 9 e.2.1 = 0 then 0 else 1) + cnB Sp s
    rw [this, Nat.add_right_comm]
theorem cnB_rev : ∀ {r : List scE}, cnB Sp r.reverse = cnB Sp r
  | [] => rfl
  | e :: r => by
    rw [List.reverse_cons, cnB_app, cnB_rev (r := r)]
    show cnB Sp r + (0 + (if Sp.1 9 e.2.1 = 0 then 0 else 1)) = cnB Sp r + (if Sp.1 9 e.2.1 = 0 then 0 else 1)
    rw [Nat.zero_add]
/-- the reference counts the boxes -/
theorem count_m {m c0 s0 fn k : Nat} (hm : m < 256) (h44 : R.1 44 m = nI k) (hk : k ≤ 4) (hfx : ∀ a, 36 ≤ a → a ≤ 46 → R.1 a = Rp.1 a) : ∀ (r vd : List scE), bnd Sp Rp m c0 s0 fn (r.reverse ++ vd) → r.length + vd.length = k → G_164_4 (nI m) (nI (cnB Sp vd)) (nI vd.length) R = some (.inl (some (.int (nI (cnB Sp (r.reverse ++ vd))))), R)
  | [], vd, hb, hl => by
    have hl : vd.length = k := by simpa using hl
    rw [G_164_4_eq]
    unfold B_164_4
    rw [az_ck_in hm (by decide), nI_clamp (by omega), h44, if_pos (nI_le (by omega) (by omega))]
    rfl
  | e :: r, vd, hb, hl => by
    rw [List.length_cons] at hl
    rw [List.reverse_cons, List.append_assoc, List.singleton_append] at hb ⊢
    have ih := count_m hm h44 hk hfx r (e :: vd) hb (by rw [List.length_cons]; omega)
    obtain ⟨n1, n2, n3, n4, n5, n6, n7, n8, n9⟩ := bnd_suf hb
    have e4 : (4 : Int32) * nI m + nI vd.length = nI (4 * m + vd.length) := by rw [show (4 : Int32) = nI 4 from rfl, pk_mul, nI_add]
    have e43 : R.1 43 (4 * m + vd.length) = nI e.2.2.1 := by rw [hfx 43 (by decide) (by decide)]; exact n3
    have e46 : R.1 46 e.2.2.1 = Sp.1 9 e.2.1 := by rw [hfx 46 (by decide) (by decide)]; exact n5.symm
    rw [G_164_4_eq]
    unfold B_164_4 G_164_38
    rw [az_ck_in hm (by decide), nI_clamp (by omega), h44, if_neg (nI_ge (by omega) (by omega)), e4, az_ck_in (show 4 * m + vd.length < 1024 by omega) (by decide), nI_clamp (by omega), e43, az_ck_in n8 (by decide), nI_clamp (by omega), e46, nI_1]
    have ec : cnB Sp (e :: vd) = cnB Sp vd + (if Sp.1 9 e.2.1 = 0 then 0 else 1) := rfl
    rw [List.length_cons, ec] at ih
    simp only [az_st]
    rcases n6 with h0 | h0
    · rw [if_pos h0] at ih ⊢
      rw [show nI (cnB Sp vd) + 0 = nI (cnB Sp vd + 0) from nI_add _ 0]
      exact ih
    · have hne : ¬ Sp.1 9 e.2.1 = 0 := by rw [h0]; decide
      rw [if_neg hne] at ih ⊢
      rw [nI_1]
      exact ih
end RBIND
