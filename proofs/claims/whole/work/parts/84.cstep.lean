/-! one order of the class -/
section CSTEP
variable {S : amS} {l2 : Int32} {c t b p wt : Nat} {x y : Int32}
/-- the machine's registers, while it goes on -/
def cV (S : amS) (t b p wt : Nat) : Prop := S.1 24 8 = nI t ∧ S.1 24 9 = nI b ∧ S.1 24 10 = nI p ∧ S.1 24 11 = nI wt ∧ S.1 24 13 = 2
/-- all but registers and stack is kept -/
def cF (S S' : amS) : Prop := (∀ a, a ≠ 24 → S'.1 a = S.1 a) ∧ (∀ k, k ≠ 8 → k ≠ 9 → k ≠ 10 → k ≠ 11 → S'.1 24 k = S.1 24 k) ∧ (∀ a, a ≠ 31 → S'.2 a = S.2 a)
theorem cF_refl : cF S S := ⟨fun _ _ => rfl, fun _ _ _ _ _ => rfl, fun _ _ => rfl⟩
theorem cF_trans {S1 S2 : amS} (h : cF S S1) (h' : cF S1 S2) : cF S S2 := ⟨fun a ha => (h'.1 a ha).trans (h.1 a ha), fun k a1 a2 a3 a4 => (h'.2.1 k a1 a2 a3 a4).trans (h.2.1 k a1 a2 a3 a4), fun a ha => (h'.2.2 a ha).trans (h.2.2 a ha)⟩
theorem cF_I {S1 : amS} {k : Nat} {v : Int32} (h : cF S S1) (hk : k = 8 ∨ k = 9 ∨ k = 10 ∨ k = 11) : cF S (sI S1 24 k v) := cF_trans h ⟨fun a ha => by rw [sI_row, if_neg ha], fun j h1 h2 h3 h4 => sI_nk _ (by omega), fun a _ => rfl⟩
theorem cF_J {S1 : amS} {k : Nat} {v : Int64} (h : cF S S1) : cF S (sJ S1 31 k v) := cF_trans h ⟨fun a _ => rfl, fun j h1 h2 h3 h4 => rfl, fun a ha => by show az_up S1.2 31 _ a = S1.2 a; unfold az_up; rw [if_neg ha]⟩
def nx (S : amS) (p : Nat) : amS := sI S 24 10 (nI (p + 1))
theorem nx_F : cF S (nx S p) := cF_I cF_refl (by omega)
theorem nx_V (h : cV S t b p wt) : cV (nx S p) t b (p + 1) wt := ⟨h.1, h.2.1, sI_eq _ _ _ _, h.2.2.2.1, h.2.2.2.2⟩
theorem lp_free {o : Int32} (hV : cV S t b p wt) (hc : c < 1000000) (hp : p ≤ 501) (hd : cd S p o x y) (ho : 6 < o) : G_32_4 l2 (nI c) S = G_32_60 G_32_4 l2 (nI c) o S := by
  obtain ⟨v1, v2, v3, v4, v5⟩ := hV
  obtain ⟨d1, d2, d3⟩ := hd
  rw [G_32_4_eq]
  unfold B_32_4 g_4
  have h6 : ¬ (1000000 : Int32) ≤ nI c := nI_ge hc (by decide)
  rw [if_neg h6, if_pos v5, bI_i, v3, az_rg_in _ _ _ (by omega) (by decide), d1, if_pos ho]
theorem lp_60 {o : Int32} (hV : cV S t b p wt) (hp : p ≤ 501) (hd : cd S p o x y) : G_32_60 G_32_4 l2 (nI c) o S = if 6 < o then if 16 < o then if 22 < o then az_bV (g_51 o y (nx S p)) fun S4 => G_32_4 l2 (nI (c + 1)) S4 else az_bV (g_48 o y (nx S p)) fun S5 => G_32_4 l2 (nI (c + 1)) S5 else az_bV (G_34 o x y (nx S p)) fun S6 => G_32_4 l2 (nI (c + 1)) S6 else az_bV (G_33 o x y (nx S p)) fun S7 => G_32_4 l2 (nI (c + 1)) S7 := by
  obtain ⟨v1, v2, v3, v4, v5⟩ := hV
  obtain ⟨d1, d2, d3⟩ := hd
  unfold G_32_60 G_32_168
  simp only [az_st]
  rw [v3, az_rg_in _ _ _ (by omega) (by decide), az_rg_in _ _ _ (by omega) (by decide), d2, d3, nI_1, nI_1]
  rfl
theorem lp_obey {o : Int32} (hV : cV S t b p wt) (hc : c < 1000000) (hp : p ≤ 501) (hd : cd S p o x y) (ho : 6 < o) (ho2 : ¬ 16 < o) : G_32_4 l2 (nI c) S = az_bV (G_34 o x y (nx S p)) fun S6 => G_32_4 l2 (nI (c + 1)) S6 := by
  rw [lp_free hV hc hp hd ho, lp_60 hV hp hd, if_pos ho, if_neg ho2]
theorem lp_one {o : Int32} (hV : cV S t b p wt) (hc : c < 1000000) (hp : p ≤ 501) (hd : cd S p o x y) (ho : 6 < o) (ho2 : 16 < o) (ho3 : ¬ 22 < o) : G_32_4 l2 (nI c) S = az_bV (g_48 o y (nx S p)) fun S6 => G_32_4 l2 (nI (c + 1)) S6 := by
  rw [lp_free hV hc hp hd ho, lp_60 hV hp hd, if_pos ho, if_pos ho2, if_neg ho3]
theorem lp_two {o : Int32} (hV : cV S t b p wt) (hc : c < 1000000) (hp : p ≤ 501) (hd : cd S p o x y) (ho : 6 < o) (ho2 : 16 < o) (ho3 : 22 < o) : G_32_4 l2 (nI c) S = az_bV (g_51 o y (nx S p)) fun S6 => G_32_4 l2 (nI (c + 1)) S6 := by
  rw [lp_free hV hc hp hd ho, lp_60 hV hp hd, if_pos ho, if_pos ho2, if_pos ho3]
/-- one expression more is begun -/
def bgS (S : amS) : amS := sI S 24 12 (S.1 24 12 + 1)
theorem lp_beg {o : Int32} {fl : Nat} (hV : cV S t b p wt) (hc : c < 1000000) (hp : p ≤ 501) (hd : cd S p o x y) (ho : ¬ 6 < o) (hf : fl < 2000) : G_32_4 (nI (fl + 1)) (nI c) S = az_bV (G_33 o x y (nx (bgS S) p)) fun S7 => G_32_4 (nI fl) (nI (c + 1)) S7 := by
  have h60 := lp_60 (S := bgS S) (l2 := nI fl) (c := c) (t := t) (b := b) (wt := wt) (o := o) (x := x) (y := y) ⟨hV.1, hV.2.1, hV.2.2.1, hV.2.2.2.1, hV.2.2.2.2⟩ hp hd
  rw [if_neg ho] at h60
  obtain ⟨v1, v2, v3, v4, v5⟩ := hV
  obtain ⟨d1, d2, d3⟩ := hd
  rw [G_32_4_eq]
  unfold B_32_4 g_4
  have h6 : ¬ (1000000 : Int32) ≤ nI c := nI_ge hc (by decide)
  rw [if_neg h6, if_pos v5, bI_i, v3, az_rg_in _ _ _ (by omega) (by decide), d1, if_neg ho, if_neg (nI_ne0 (by omega) (by omega)), pk_m1]
  exact h60
theorem lp_out {o : Int32} (hV : cV S t b p wt) (hc : c < 1000000) (hp : p ≤ 501) (hd : cd S p o x y) (ho : ¬ 6 < o) : G_32_4 0 (nI c) S = some (.inl (some (.int 2)), S) := by
  obtain ⟨v1, v2, v3, v4, v5⟩ := hV
  obtain ⟨d1, d2, d3⟩ := hd
  rw [G_32_4_eq]
  unfold B_32_4 g_4
  have h6 : ¬ (1000000 : Int32) ≤ nI c := nI_ge hc (by decide)
  rw [if_neg h6, if_pos v5, bI_i, v3, az_rg_in _ _ _ (by omega) (by decide), d1, if_neg ho, if_pos rfl, v5]
theorem lp_stop (hc : c < 1000000) {s : Nat} (hs : S.1 24 13 = nI s) (h2 : s ≠ 2) (h5 : s ≤ 5) : G_32_4 l2 (nI c) S = some (.inl (some (.int (nI s))), S) := by
  rw [G_32_4_eq]
  unfold B_32_4 G_32_174
  have h6 : ¬ (1000000 : Int32) ≤ nI c := nI_ge hc (by decide)
  rw [if_neg h6, hs, if_neg (fun h => by exact h2 ((nI_eq (by omega) (by decide)).mp (show nI s = nI 2 from h)))]
theorem st_get (hi : p < 6405) : g_36 (nI p) S = some (.inl (some (.long (S.2 31 p))), S) := by
  unfold g_36
  rw [az_rj_in _ _ _ hi (by decide)]
/-- a value is pushed -/
def phS (S : amS) (t : Nat) (v : Int64) : amS := sI (sJ S 31 t v) 24 8 (nI (t + 1))
theorem push_c {v : Int64} (h : S.1 24 8 = nI t) (ht : t < 6405) : g_37 v S = some (.inl none, phS S t v) := by
  simp only [g_37, az_st]
  rw [h, sRJ_in _ _ _ _ _ ht (by decide), show (sJ S 31 t v).1 24 8 = nI t from h, nI_1]
  rfl
theorem phS_V {v : Int64} (h : cV S t b p wt) : cV (phS S t v) (t + 1) b p wt := ⟨sI_eq _ _ _ _, h.2.1, h.2.2.1, h.2.2.2.1, h.2.2.2.2⟩
theorem phS_F {v : Int64} : cF S (phS S t v) := cF_I (cF_J cF_refl) (by omega)
theorem phS_t {v : Int64} : (phS S t v).2 31 t = v := by
  show (sJ S 31 t v).2 31 t = v
  rw [sJ_eq]
theorem phS_l {v : Int64} {i : Nat} (hi : i ≠ t) : (phS S t v).2 31 i = S.2 31 i := by
  show (sJ S 31 t v).2 31 i = _
  rw [sJ_nk _ hi]
theorem pop_c (h : S.1 24 8 = nI (t + 1)) (ht : t < 6405) : g_38 S = some (.inl (some (.long (S.2 31 t))), sI S 24 8 (nI t)) := by
  simp only [g_38, az_st]
  rw [h, nI_pred, sI_eq, st_get ht, bJ_j]
  rfl
theorem c_pop (hV : cV S (t + 1) b p wt) (hc : c < 1000000) (hp : p ≤ 501) (ht : t < 6405) (hd : cd S p 8 x y) : ∃ S', G_32_4 l2 (nI c) S = G_32_4 l2 (nI (c + 1)) S' ∧ cV S' t b (p + 1) wt ∧ cF S S' ∧ S'.2 31 = S.2 31 := by
  refine ⟨sI (nx S p) 24 8 (nI t), ?_, ⟨rfl, hV.2.1, rfl, hV.2.2.2.1, hV.2.2.2.2⟩, cF_I nx_F (by omega), rfl⟩
  rw [lp_obey hV hc hp hd (by decide) (by decide)]
  unfold G_34
  rw [if_neg (by decide), if_pos rfl, pop_c (nx_V hV).1 ht, bJ_j, bV_v]
theorem c_jump {q : Nat} (hV : cV S t b p wt) (hc : c < 1000000) (hp : p ≤ 501) (hd : cd S p 9 (nI q) y) : ∃ S', G_32_4 l2 (nI c) S = G_32_4 l2 (nI (c + 1)) S' ∧ cV S' t b q wt ∧ cF S S' ∧ S'.2 31 = S.2 31 := by
  refine ⟨sI (nx S p) 24 10 (nI q), ?_, ⟨hV.1, hV.2.1, rfl, hV.2.2.2.1, hV.2.2.2.2⟩, cF_I nx_F (by omega), rfl⟩
  rw [lp_obey hV hc hp hd (by decide) (by decide)]
  unfold G_34
  rw [if_neg (by decide), if_neg (by decide), if_pos rfl]
  rfl
theorem c_jz {q : Nat} (hV : cV S (t + 1) b p wt) (hc : c < 1000000) (hp : p ≤ 501) (ht : t < 6405) (hd : cd S p 10 (nI q) y) : ∃ S', G_32_4 l2 (nI c) S = G_32_4 l2 (nI (c + 1)) S' ∧ cV S' t b (if S.2 31 t = 0 then q else p + 1) wt ∧ cF S S' ∧ S'.2 31 = S.2 31 := by
  refine ⟨sI (sI (nx S p) 24 8 (nI t)) 24 10 (nI (if S.2 31 t = 0 then q else p + 1)), ?_, ⟨rfl, hV.2.1, rfl, hV.2.2.2.1, hV.2.2.2.2⟩, cF_I (cF_I nx_F (by omega)) (by omega), rfl⟩
  rw [lp_obey hV hc hp hd (by decide) (by decide)]
  unfold G_34 G_34_98
  have e : g_38 (nx S p) = some (.inl (some (.long (S.2 31 t))), sI (nx S p) 24 8 (nI t)) := pop_c (S := nx S p) (nx_V hV).1 ht
  rw [if_neg (by decide), if_neg (by decide), if_neg (by decide), if_pos rfl, e, bJ_j]
  by_cases hz : S.2 31 t = 0
  · rw [if_pos ((lg_cmp_0 _ _).mpr hz), if_pos hz]
    rfl
  · rw [if_neg (fun h => hz ((lg_cmp_0 _ _).mp h)), if_neg hz]
    rfl
theorem drop_c {k : Nat} (hV : cV S (t + k + 1) b p wt) (ht : t + k < 6405) : g_39 (nI t) S = some (.inl none, phS (sI S 24 8 (nI t)) t (S.2 31 (t + k))) := by
  unfold g_39
  rw [hV.1, nI_pred, st_get ht, bJ_j]
  simp only [az_st]
  rw [push_c (sI_eq _ _ _ _) (by omega), bV_v]
theorem c_leave {k : Nat} (hV : cV S (t + k + 1) b p wt) (hc : c < 1000000) (hp : p ≤ 501) (ht : t + k < 6405) (hd : cd S p 13 (nI k) y) : ∃ S', G_32_4 l2 (nI c) S = G_32_4 l2 (nI (c + 1)) S' ∧ cV S' (t + 1) b (p + 1) wt ∧ cF S S' ∧ S'.2 31 t = S.2 31 (t + k) ∧ ∀ i, i < t → S'.2 31 i = S.2 31 i := by
  refine ⟨phS (sI (nx S p) 24 8 (nI t)) t (S.2 31 (t + k)), ?_, phS_V ⟨rfl, hV.2.1, rfl, hV.2.2.2.1, hV.2.2.2.2⟩, cF_trans (cF_I nx_F (by omega)) phS_F, phS_t, fun i hi => phS_l (by omega)⟩
  rw [lp_obey hV hc hp hd (by decide) (by decide)]
  unfold G_34
  rw [if_neg (by decide), if_neg (by decide), if_neg (by decide), if_neg (by decide), if_neg (by decide), if_neg (by decide), if_pos rfl]
  have e : (nx S p).1 24 8 - 1 - nI k = nI t := by
    rw [(nx_V hV).1, nI_pred, pk_sub (by omega), Nat.add_sub_cancel]
  rw [e, drop_c (nx_V hV) ht, bV_v, bV_v]
  rfl
theorem c_end (hV : cV S t b p wt) (hc : c + 1 < 1000000) (hp : p ≤ 501) (hd : cd S p 7 x y) : ∃ S', G_32_4 l2 (nI c) S = some (.inl (some (.int 1)), S') ∧ S'.1 24 13 = 1 ∧ S'.1 24 8 = nI t ∧ S'.1 24 11 = nI wt ∧ (∀ a, a ≠ 24 → S'.1 a = S.1 a) ∧ (∀ k, k ≠ 10 → k ≠ 13 → S'.1 24 k = S.1 24 k) ∧ S'.2 = S.2 := by
  refine ⟨sI (nx S p) 24 13 1, ?_, sI_eq _ _ _ _, hV.1, hV.2.2.2.1, fun a ha => by rw [sI_row, if_neg ha]; exact nx_F.1 a ha, fun k h1 h2 => by rw [sI_nk _ h2]; exact sI_nk _ h1, rfl⟩
  rw [lp_obey hV (by omega) hp hd (by decide) (by decide)]
  unfold G_34
  rw [if_pos rfl]
  simp only [az_st, bV_v]
  exact lp_stop (by omega) (s := 1) (sI_eq _ _ _ _) (by decide) (by decide)
theorem c_ret {pc' b' : Nat} {wt' : Nat} {h : Nat} (hV : cV S (b + h + 1) b p (wt' + 1)) (hb : 1 ≤ b) (hc : c < 1000000) (hp : p ≤ 501) (ht : b + h < 6405) (hw : wt' < 60) (hd : cd S p 16 x y) (h32 : S.1 32 wt' = nI pc') (h33 : S.1 33 wt' = nI b') : ∃ S', G_32_4 l2 (nI c) S = G_32_4 l2 (nI (c + 1)) S' ∧ cV S' b b' pc' wt' ∧ cF S S' ∧ S'.2 31 (b - 1) = S.2 31 (b + h) ∧ ∀ i, i < b - 1 → S'.2 31 i = S.2 31 i := by
  obtain ⟨b0, rfl⟩ : ∃ b0, b = b0 + 1 := ⟨b - 1, by omega⟩
  have e1 : cV (nx S p) (b0 + (h + 1) + 1) (b0 + 1) (p + 1) (wt' + 1) := by
    have := nx_V hV
    rw [show b0 + 1 + h + 1 = b0 + (h + 1) + 1 by omega] at this
    exact this
  have e2 : (nx S p).1 24 9 - 1 = nI b0 := by rw [e1.2.1, nI_pred]
  refine ⟨sI (sI (sI (phS (sI (nx S p) 24 8 (nI b0)) b0 (S.2 31 (b0 + (h + 1)))) 24 11 (nI wt')) 24 10 (nI pc')) 24 9 (nI b'), ?_, ⟨rfl, rfl, rfl, rfl, hV.2.2.2.2⟩, cF_I (cF_I (cF_I (cF_trans (cF_I nx_F (by omega)) phS_F) (by omega)) (by omega)) (by omega), ?_, fun i hi => ?_⟩
  · rw [lp_obey hV hc hp hd (by decide) (by decide)]
    unfold G_34
    rw [if_neg (by decide), if_neg (by decide), if_neg (by decide), if_neg (by decide), if_neg (by decide), if_neg (by decide), if_neg (by decide), if_neg (by decide), if_neg (by decide), if_pos rfl]
    unfold g_47
    rw [e2, drop_c e1 (by omega), bV_v]
    simp only [az_st]
    have q1 : (phS (sI (nx S p) 24 8 (nI b0)) b0 ((nx S p).2 31 (b0 + (h + 1)))).1 24 11 - 1 = nI wt' := by
      show (nx S p).1 24 11 - 1 = _
      rw [e1.2.2.2.1, nI_pred]
    rw [q1, sI_eq]
    have q2 : az_rg 60 ((sI (phS (sI (nx S p) 24 8 (nI b0)) b0 ((nx S p).2 31 (b0 + (h + 1)))) 24 11 (nI wt')).1 32) (nI wt') = nI pc' := by
      rw [az_rg_in _ _ _ hw (by decide)]
      exact h32
    rw [q2]
    have q3 : az_rg 60 ((sI (sI (phS (sI (nx S p) 24 8 (nI b0)) b0 ((nx S p).2 31 (b0 + (h + 1)))) 24 11 (nI wt')) 24 10 (nI pc')).1 33) ((sI (sI (phS (sI (nx S p) 24 8 (nI b0)) b0 ((nx S p).2 31 (b0 + (h + 1)))) 24 11 (nI wt')) 24 10 (nI pc')).1 24 11) = nI b' := by
      rw [show (sI (sI (phS (sI (nx S p) 24 8 (nI b0)) b0 ((nx S p).2 31 (b0 + (h + 1)))) 24 11 (nI wt')) 24 10 (nI pc')).1 24 11 = nI wt' from rfl, az_rg_in _ _ _ hw (by decide)]
      exact h33
    rw [q3]
    rfl
  · show (phS (sI (nx S p) 24 8 (nI b0)) b0 (S.2 31 (b0 + (h + 1)))).2 31 (b0 + 1 - 1) = _
    rw [Nat.add_sub_cancel, phS_t, show b0 + (h + 1) = b0 + 1 + h by omega]
  · show (phS (sI (nx S p) 24 8 (nI b0)) b0 (S.2 31 (b0 + (h + 1)))).2 31 i = _
    rw [phS_l (by omega)]
    rfl
end CSTEP
