/-! orders of the class that touch the heap -/
section CSTEP2
variable {S : amS} {l2 : Int32} {c t b p wt fl : Nat} {x y : Int32}
theorem bg_V (h : cV S t b p wt) : cV (nx (bgS S) p) t b (p + 1) wt := ⟨h.1, h.2.1, rfl, h.2.2.2.1, h.2.2.2.2⟩
theorem c_beg0 (hV : cV S t b p wt) (hc : c < 1000000) (hp : p ≤ 501) (hd : cd S p 1 x y) (hf : fl < 2000) : G_32_4 (nI (fl + 1)) (nI c) S = G_32_4 (nI fl) (nI (c + 1)) (nx (bgS S) p) := by
  rw [lp_beg hV hc hp hd (by decide) hf]
  unfold G_33
  rw [if_neg (by decide), if_neg (by decide), if_neg (by decide), if_neg (by decide), if_neg (by decide), bV_v]
theorem nI_nat {i : Nat} (h : i < 2 ^ 32) : (nI i).toBitVec.toNat = i := by
  unfold nI
  rw [Int32.toBitVec_ofNat', BitVec.toNat_ofNat, Nat.mod_eq_of_lt h]
theorem valE_c {tg : Nat} (ht : tg < 2 ^ 31) (x : Int32) : g_111 (nI tg) x S = some (.inl (some (.long (vE tg x.toBitVec.toNat))), S) := by
  unfold g_111
  rw [vE_of ht]
theorem c_num (hV : cV S t b p wt) (hc : c < 1000000) (hp : p ≤ 501) (ht : t < 6405) (hd : cd S p 2 x y) (hf : fl < 2000) : G_32_4 (nI (fl + 1)) (nI c) S = G_32_4 (nI fl) (nI (c + 1)) (phS (nx (bgS S) p) t (vE 0 x.toBitVec.toNat)) := by
  rw [lp_beg hV hc hp hd (by decide) hf]
  unfold G_33
  have e : g_111 0 x (nx (bgS S) p) = _ := valE_c (tg := 0) (by decide) x
  rw [if_pos rfl, e, bJ_j, push_c (bg_V hV).1 ht, bV_v, bV_v]
theorem c_nil (hV : cV S t b p wt) (hc : c < 1000000) (hp : p ≤ 501) (ht : t < 6405) (hd : cd S p 3 x y) (hf : fl < 2000) : G_32_4 (nI (fl + 1)) (nI c) S = G_32_4 (nI fl) (nI (c + 1)) (phS (nx (bgS S) p) t (vE 1 0)) := by
  rw [lp_beg hV hc hp hd (by decide) hf]
  unfold G_33
  rw [if_neg (by decide), if_pos rfl, push_c (bg_V hV).1 ht, bV_v, bV_v, vE_nil]
/-- where the functions of the heap are, and what they took along -/
def FNC (Sp S : amS) (tw : Nat → Nat → Int64) (fm fmu : Nat → Nat) (nf tc : Nat) : Prop := ∀ j, j < nf → fm j < 2000 ∧ fmu j < 28 ∧ S.2 26 (fm j) = vE 0 (fmu j) ∧ ∃ tb t, S.2 27 (fm j) = vE 0 tb ∧ Sp.1 17 (fmu j) = nI t ∧ t ≤ 26 ∧ tb + t ≤ tc ∧ ∀ i, i < t → S.2 28 (tb + i) = tw j i
theorem src_neg : ∀ i, i < 26 → ((-1) - nI i : Int32) < 0 ∧ ((-1) - ((-1) - nI i) : Int32) = nI i := by decide +kernel
theorem find_c {Sp : amS} {cw : Nat → Int64} {tw : Nat → Nat → Int64} {fm fmu : Nat → Nat} {nf tc j h fn k : Nat} {sc : List scE} {ks : List Nat} {e : scE} {src : Int32} (hb : S.1 24 9 = nI b) (hL : Lo Sp fn e src) (hm : (e, k) ∈ sc.zip ks) (hE : env Sp (S.2 31) (tw j) cw b h fn sc ks) (hbh : b + h ≤ 6405) (hfn : fn < 28 → 1 ≤ b ∧ j < nf ∧ S.2 31 (b - 1) = vE 3 (fm j) ∧ fmu j = fn) (hF : FNC Sp S tw fm fmu nf tc) (htc : tc ≤ 52000) : g_41 src S = some (.inl (some (.long (cw k))), S) := by
  obtain ⟨e1, e2, e3⟩ := hE (e, k) hm
  rcases hL with ⟨hh, rfl⟩ | ⟨hh, hf, i, t, hi, ht, h17, h18, rfl⟩
  · obtain ⟨s, s1, s2, s3⟩ := e1 hh
    have s2 : Sp.1 7 e.2.1 = nI s := s2
    have s3 : S.2 31 (b + s) = cw k := s3
    unfold g_41
    rw [s2, if_neg (nI_pos (by omega)), hb, nI_add, st_get (by omega), bJ_j, s3]
  · obtain ⟨f1, f2, f3, f4⟩ := hfn hf
    obtain ⟨a1, a2, a3, tb, t', a4, a5, a6, a7, a8⟩ := hF j f2
    rw [f4] at a5
    have ett : t = t' := (nI_eq (by omega) (by omega)).mp (h17.symm.trans a5)
    subst ett
    obtain ⟨n1, n2⟩ := src_neg i (by omega)
    obtain ⟨b0, rfl⟩ : ∃ b0, b = b0 + 1 := ⟨b - 1, by omega⟩
    rw [Nat.add_sub_cancel] at f3
    have e2 : tw j i = cw k := e2 hh hf i t hi ht h17 h18
    unfold g_41
    rw [if_pos n1, hb, nI_pred, st_get (by omega), bJ_j, f3]
    unfold g_26 g_113
    rw [bI_i, vE_body (by omega) (by omega), az_rj_in _ _ _ a1 (by decide), a4, vE_body (by omega) (by omega), n2, nI_add, az_rj_in _ _ _ (by omega) (by decide), a8 i hi, e2, bJ_j]
theorem unb_box {w : Nat} (hw : w < 2000) : g_27 (vE 4 w) S = some (.inl (some (.long (S.2 26 w))), S) := by
  unfold g_27 g_112 g_113
  rw [vE_tag (by omega) (by omega), bI_i, if_pos (show nI 4 = 4 from rfl), vE_body (by omega) (by omega), bI_i, az_rj_in _ _ _ hw (by decide)]
theorem unb_val {tg w : Nat} (ht : tg < 4) (hw : w < 2 ^ 32) : g_27 (vE tg w) S = some (.inl (some (.long (vE tg w))), S) := by
  unfold g_27 g_112
  rw [vE_tag (by omega) hw, bI_i, if_neg (fun h => by have := (nI_eq (by omega) (by decide)).mp (show nI tg = nI 4 from h); omega)]
theorem c_fetch {W U : Int64} (hV : cV S t b p wt) (hc : c < 1000000) (hp : p ≤ 501) (ht : t < 6405) (hd : cd S p 4 x y) (hf : fl < 2000) (h1 : g_41 x (nx (bgS S) p) = some (.inl (some (.long W)), nx (bgS S) p)) (h2 : g_27 W (nx (bgS S) p) = some (.inl (some (.long U)), nx (bgS S) p)) : G_32_4 (nI (fl + 1)) (nI c) S = G_32_4 (nI fl) (nI (c + 1)) (phS (nx (bgS S) p) t U) := by
  rw [lp_beg hV hc hp hd (by decide) hf]
  unfold G_33
  rw [if_neg (by decide), if_neg (by decide), if_pos rfl, h1, bJ_j, h2, bJ_j, push_c (bg_V hV).1 ht, bV_v, bV_v]
theorem c_store {w : Nat} (hV : cV S (t + 1) b p wt) (hc : c < 1000000) (hp : p ≤ 501) (ht : t < 6405) (hw : w < 2000) (hd : cd S p 12 x y) (h1 : g_41 x (nx S p) = some (.inl (some (.long (vE 4 w))), nx S p)) : G_32_4 l2 (nI c) S = G_32_4 l2 (nI (c + 1)) (sJ (nx S p) 26 w (S.2 31 t)) := by
  rw [lp_obey hV hc hp hd (by decide) (by decide)]
  unfold G_34
  rw [if_neg (by decide), if_neg (by decide), if_neg (by decide), if_neg (by decide), if_neg (by decide), if_pos rfl, h1, bJ_j, (nx_V hV).1, nI_pred, st_get ht, bJ_j]
  unfold g_28 g_112 g_113
  rw [vE_tag (by decide) (by omega), bI_i, if_pos (show nI 4 = 4 from rfl), vE_body (by decide) (by omega), bI_i]
  simp only [az_st]
  rw [sRJ_in _ _ _ _ _ hw (by decide), bV_v, bV_v]
  all_goals rfl
def mkS (S : amS) (md : Nat) (v1 v2 : Int64) : amS := sI (sJ (sJ S 26 md v1) 27 md v2) 25 3 (nI (md + 1))
theorem make_c {tg md : Nat} {v1 v2 : Int64} (hm : S.1 25 3 = nI md) (h : md < 2000) (ht : tg < 2 ^ 31) : g_21 (nI tg) v1 v2 S = some (.inl (some (.long (vE tg md))), mkS S md v1 v2) := by
  unfold g_21
  rw [hm, if_pos (show nI md < 2000 from nI_lt (b := 2000) h (by decide))]
  simp only [az_st]
  rw [sRJ_in _ _ _ _ _ h (by decide), sRJ_in _ _ _ _ _ h (by decide), show (sJ (sJ S 26 md v1) 27 md v2).1 25 3 = nI md from hm, nI_1, valE_c ht, bJ_j, nI_nat (by omega)]
  all_goals rfl
theorem make_no {tg : Int32} {v1 v2 : Int64} (hm : S.1 25 3 = nI 2000) : g_21 tg v1 v2 S = some (.inl (some (.long (vE 5 0))), S) := by
  unfold g_21
  rw [hm, if_neg (show ¬ nI 2000 < 2000 by decide), vE_none]
theorem no5 {tg md : Nat} (ht : tg < 5) (h : md < 2 ^ 32) : ¬ lg_cmp (vE tg md) 21474836480 = 0 := by
  intro h9
  have := (lg_cmp_0 _ _).mp h9
  rw [vE_none, vE_inj (by omega) h (by decide) (by decide)] at this
  omega
theorem is5 : lg_cmp (vE 5 0) 21474836480 = 0 := (lg_cmp_0 _ _).mpr vE_none.symm
def stS (S : amS) (st y : Int32) : amS := sI (sI S 24 13 st) 24 14 y
theorem stop_c (st : Int32) : g_35 st y S = some (.inl none, stS S st y) := rfl
theorem box_no {cv : Nat} (hcv : cv < 250) (h9 : S.1 9 cv = 0) : g_43 (nI cv) y S = some (.inl none, S) := by
  unfold g_43 g_63
  rw [if_neg (nI_pos (by omega)), if_neg (show ¬ (250 : Int32) ≤ nI cv from nI_ge hcv (by decide)), az_ck_in hcv (by decide), nI_clamp (by omega), if_pos h9, bI_i, if_pos rfl]
def bxS (S : amS) (md i : Nat) : amS := sJ (mkS S md (S.2 31 i) (vE 1 0)) 31 i (vE 4 md)
theorem box_yes {cv s md : Nat} (hcv : cv < 250) (h9 : S.1 9 cv = 1) (h7 : S.1 7 cv = nI s) (hb : S.1 24 9 = nI b) (hs : b + s < 6405) (hm : S.1 25 3 = nI md) (h : md < 2000) : g_43 (nI cv) y S = some (.inl none, bxS S md (b + s)) := by
  unfold g_43 g_63 g_61
  rw [if_neg (nI_pos (by omega)), if_neg (show ¬ (250 : Int32) ≤ nI cv from nI_ge hcv (by decide)), az_ck_in hcv (by decide), nI_clamp (by omega), if_neg (by rw [h9]; decide), bI_i, if_neg (by decide), az_rg_in _ _ _ hcv (by decide), h7, bI_i]
  simp only [az_st]
  rw [hb, nI_add, st_get hs, bJ_j]
  have e : g_21 4 (S.2 31 (b + s)) 4294967296 S = _ := make_c (tg := 4) hm h (by decide)
  rw [e, bJ_j, if_neg (no5 (by decide) (by omega)), sRJ_in _ _ _ _ _ hs (by decide), vE_nil]
  all_goals rfl
theorem box_full {cv s : Nat} (hcv : cv < 250) (h9 : S.1 9 cv = 1) (h7 : S.1 7 cv = nI s) (hb : S.1 24 9 = nI b) (hs : b + s < 6405) (hm : S.1 25 3 = nI 2000) : g_43 (nI cv) y S = some (.inl none, stS S 5 y) := by
  unfold g_43 g_63 g_61
  rw [if_neg (nI_pos (by omega)), if_neg (show ¬ (250 : Int32) ≤ nI cv from nI_ge hcv (by decide)), az_ck_in hcv (by decide), nI_clamp (by omega), if_neg (by rw [h9]; decide), bI_i, if_neg (by decide), az_rg_in _ _ _ hcv (by decide), h7, bI_i]
  simp only [az_st]
  rw [hb, nI_add, st_get hs, bJ_j, make_no hm, bJ_j, if_pos is5, stop_c, bV_v]
theorem c_bind {S' : amS} (hV : cV S t b p wt) (hc : c < 1000000) (hp : p ≤ 501) (hd : cd S p 11 x y) (h : g_43 x y (nx S p) = some (.inl none, S')) : G_32_4 l2 (nI c) S = G_32_4 l2 (nI (c + 1)) S' := by
  rw [lp_obey hV hc hp hd (by decide) (by decide)]
  unfold G_34
  rw [if_neg (by decide), if_neg (by decide), if_neg (by decide), if_neg (by decide), if_pos rfl, h, bV_v, bV_v]
theorem c_rec {md : Nat} (hV : cV S t b p wt) (hc : c < 1000000) (hp : p ≤ 501) (ht : t < 6405) (hd : cd S p 6 x y) (hf : fl < 2000) (hm : S.1 25 3 = nI md) (h : md < 2000) : G_32_4 (nI (fl + 1)) (nI c) S = G_32_4 (nI fl) (nI (c + 1)) (phS (mkS (nx (bgS S) p) md (vE 1 0) (vE 1 0)) t (vE 4 md)) := by
  rw [lp_beg hV hc hp hd (by decide) hf]
  unfold G_33
  have e : g_21 4 4294967296 4294967296 (nx (bgS S) p) = _ := make_c (tg := 4) (show (nx (bgS S) p).1 25 3 = nI md from hm) h (by decide)
  rw [if_neg (by decide), if_neg (by decide), if_neg (by decide), if_neg (by decide), if_pos rfl, e, bJ_j]
  unfold g_40
  rw [if_neg (no5 (by decide) (by omega)), push_c (show (mkS (nx (bgS S) p) md 4294967296 4294967296).1 24 8 = nI t from hV.1) ht, bV_v, bV_v, bV_v, vE_nil]
theorem c_rec_full (hV : cV S t b p wt) (hc : c < 1000000) (hp : p ≤ 501) (hd : cd S p 6 x y) (hf : fl < 2000) (hm : S.1 25 3 = nI 2000) : G_32_4 (nI (fl + 1)) (nI c) S = G_32_4 (nI fl) (nI (c + 1)) (stS (nx (bgS S) p) 5 y) := by
  rw [lp_beg hV hc hp hd (by decide) hf]
  unfold G_33
  rw [if_neg (by decide), if_neg (by decide), if_neg (by decide), if_neg (by decide), if_pos rfl, make_no (show (nx (bgS S) p).1 25 3 = nI 2000 from hm), bJ_j]
  unfold g_40
  rw [if_pos is5, stop_c, bV_v, bV_v, bV_v]
theorem lN_v {n : Nat} (h : n < 2 ^ 31) : (nI n).toInt64 = vE 0 n := by
  rw [nI_l h]
  unfold lN vE
  rw [Nat.zero_mul, Nat.zero_add]
/-- what a function takes along -/
theorem takeF_c {mu tk tc q : Nat} {F : Int64} {W : Nat → Int64} (hmu : mu < 28) (htk : tk ≤ 26) (htc : tc + tk ≤ 52000) (h14 : S.1 14 mu = nI q) (h8 : S.1 24 8 = nI t) (ht : t < 6405)
    (hfind : ∀ S1 : amS, (∀ a, a ≠ 25 → S1.1 a = S.1 a) → (∀ a, a ≠ 28 → S1.2 a = S.2 a) → (∀ i, i < tc → S1.2 28 i = S.2 28 i) → ∀ i, i < tk → g_41 (S.1 19 (26 * mu + i)) S1 = some (.inl (some (.long (W i))), S1)) :
    ∀ (r i : Nat) (S1 : amS), i + r = tk → (∀ a, a ≠ 25 → S1.1 a = S.1 a) → S1.1 25 4 = nI (tc + i) → (∀ k, k ≠ 4 → S1.1 25 k = S.1 25 k) → (∀ a, a ≠ 28 → S1.2 a = S.2 a) → (∀ z, z < tc → S1.2 28 z = S.2 28 z) → (∀ z, z < i → S1.2 28 (tc + z) = W z) →
      ∃ S2, G_42_47 (nI mu) F (nI tk) (nI i) S1 = some (.inl none, sI (phS S2 t F) 24 10 (nI q)) ∧ (∀ a, a ≠ 25 → S2.1 a = S.1 a) ∧ S2.1 25 4 = nI (tc + tk) ∧ (∀ k, k ≠ 4 → S2.1 25 k = S.1 25 k) ∧ (∀ a, a ≠ 28 → S2.2 a = S.2 a) ∧ (∀ z, z < tc → S2.2 28 z = S.2 28 z) ∧ (∀ z, z < tk → S2.2 28 (tc + z) = W z) := by
  intro r
  induction r with
  | zero =>
    intro i S1 hi h1 h2 h3 h4 h5 h6
    have : i = tk := by omega
    subst this
    refine ⟨S1, ?_, h1, h2, h3, h4, h5, h6⟩
    rw [G_42_47_eq]
    unfold B_42_47 g_14
    rw [if_pos (nI_le (Nat.le_refl _) (by omega)), push_c (t := t) (by rw [h1 24 (by decide)]; exact h8) ht, bV_v, az_rg_in _ _ _ hmu (by decide), bI_i]
    simp only [az_st]
    rw [show (phS S1 t F).1 14 mu = nI q from by show S1.1 14 mu = nI q; rw [h1 14 (by decide)]; exact h14]
  | succ r ih =>
    intro i S1 hi h1 h2 h3 h4 h5 h6
    rw [G_42_47_eq]
    unfold B_42_47 g_18
    rw [if_neg (nI_ge (by omega) (by omega)), show (26 : Int32) = nI 26 from rfl, pk_mul, nI_add, az_rg_in _ _ _ (show mu * 26 + i < 728 by omega) (by decide), bI_i, Nat.mul_comm mu 26, h1 19 (by decide), hfind S1 h1 h4 h5 i (by omega), bJ_j]
    unfold g_22
    simp only [az_st]
    rw [h2, sRJ_in _ _ _ _ _ (show tc + i < 52000 by omega) (by decide), show (sJ S1 28 (tc + i) (W i)).1 25 4 = nI (tc + i) from h2, nI_1, nI_1, bV_v]
    refine ih (i + 1) (sI (sJ S1 28 (tc + i) (W i)) 25 4 (nI (tc + i + 1))) (by omega) (fun a ha => ?_) (sI_eq _ _ _ _) (fun k hk => ?_) (fun a ha => ?_) (fun z hz => ?_) (fun z hz => ?_)
    · rw [sI_row, if_neg ha]; exact h1 a ha
    · rw [sI_nk _ hk]; exact h3 k hk
    · funext z
      show (sJ S1 28 (tc + i) (W i)).2 a z = _
      rw [sJ_na _ ha, h4 a ha]
    · show (sJ S1 28 (tc + i) (W i)).2 28 z = _
      rw [sJ_nk _ (by omega)]; exact h5 z hz
    · show (sJ S1 28 (tc + i) (W i)).2 28 (tc + z) = _
      by_cases hq : z = i
      · subst hq; rw [sJ_eq]
      · rw [sJ_nk _ (by omega)]; exact h6 z (by omega)
theorem c_lam {mu tk tc md q : Nat} {W : Nat → Int64} (hV : cV S t b p wt) (hc : c < 1000000) (hp : p ≤ 501) (ht : t < 6405) (hd : cd S p 5 (nI mu) y) (hf : fl < 2000) (hm : S.1 25 3 = nI md) (h : md < 2000) (h4 : S.1 25 4 = nI tc) (h17 : S.1 17 mu = nI tk) (hmu : mu < 28) (htk : tk ≤ 26) (htc : tc + tk ≤ 52000) (h14 : S.1 14 mu = nI q)
    (hfind : ∀ S1 : amS, (∀ a, a ≠ 25 → S1.1 a = (mkS (nx (bgS S) p) md (vE 0 mu) (vE 0 tc)).1 a) → (∀ a, a ≠ 28 → S1.2 a = (mkS (nx (bgS S) p) md (vE 0 mu) (vE 0 tc)).2 a) → (∀ i, i < tc → S1.2 28 i = S.2 28 i) → ∀ i, i < tk → g_41 (S.1 19 (26 * mu + i)) S1 = some (.inl (some (.long (W i))), S1)) :
    ∃ S2, G_32_4 (nI (fl + 1)) (nI c) S = G_32_4 (nI fl) (nI (c + 1)) (sI (phS S2 t (vE 3 md)) 24 10 (nI q)) ∧ (∀ a, a ≠ 25 → S2.1 a = (nx (bgS S) p).1 a) ∧ S2.1 25 4 = nI (tc + tk) ∧ S2.1 25 3 = nI (md + 1) ∧ (∀ a, a ≠ 28 → S2.2 a = (mkS (nx (bgS S) p) md (vE 0 mu) (vE 0 tc)).2 a) ∧ (∀ z, z < tc → S2.2 28 z = S.2 28 z) ∧ (∀ z, z < tk → S2.2 28 (tc + z) = W z) := by
  obtain ⟨S2, z1, z2, z3, z4, z5, z6, z7⟩ := takeF_c (S := mkS (nx (bgS S) p) md (vE 0 mu) (vE 0 tc)) (t := t) (mu := mu) (tk := tk) (tc := tc) (q := q) (F := vE 3 md) (W := W) hmu htk htc h14 hV.1 ht hfind tk 0 (mkS (nx (bgS S) p) md (vE 0 mu) (vE 0 tc)) (by omega) (fun _ _ => rfl) h4 (fun _ _ => rfl) (fun _ _ => rfl) (fun _ _ => rfl) (fun z hz => absurd hz (by omega))
  refine ⟨S2, ?_, fun a ha => ?_, z3, ?_, z5, z6, z7⟩
  · rw [lp_beg hV hc hp hd (by decide) hf]
    unfold G_33
    rw [if_neg (by decide), if_neg (by decide), if_neg (by decide), if_pos rfl]
    unfold G_42 g_17
    have e4 : (nx (bgS S) p).1 25 4 = nI tc := h4
    have e : g_21 3 (vE 0 mu) (vE 0 tc) (nx (bgS S) p) = _ := make_c (tg := 3) (show (nx (bgS S) p).1 25 3 = nI md from hm) h (by decide)
    rw [e4, lN_v (by omega), lN_v (by omega), e, bJ_j, if_neg (no5 (by decide) (by omega)), az_rg_in _ _ _ hmu (by decide), show (mkS (nx (bgS S) p) md (vE 0 mu) (vE 0 tc)).1 17 mu = nI tk from h17, bI_i]
    have z1' : G_42_47 (nI mu) (vE 3 md) (nI tk) 0 (mkS (nx (bgS S) p) md (vE 0 mu) (vE 0 tc)) = _ := z1
    rw [z1', bV_v, bV_v]
  · rw [z2 a ha]
    show (sI (sJ (sJ (nx (bgS S) p) 26 md (vE 0 mu)) 27 md (vE 0 tc)) 25 3 (nI (md + 1))).1 a = _
    rw [sI_row, if_neg ha]
    rfl
  · rw [z4 3 (by decide)]
    exact sI_eq _ _ _ _
theorem c_lam_full {mu : Nat} (hV : cV S t b p wt) (hc : c < 1000000) (hp : p ≤ 501) (hd : cd S p 5 (nI mu) y) (hf : fl < 2000) (hm : S.1 25 3 = nI 2000) : G_32_4 (nI (fl + 1)) (nI c) S = G_32_4 (nI fl) (nI (c + 1)) (stS (nx (bgS S) p) 5 y) := by
  rw [lp_beg hV hc hp hd (by decide) hf]
  unfold G_33
  rw [if_neg (by decide), if_neg (by decide), if_neg (by decide), if_pos rfl]
  unfold G_42
  rw [make_no (show (nx (bgS S) p).1 25 3 = nI 2000 from hm), bJ_j, if_pos is5, stop_c, bV_v, bV_v, bV_v]
theorem call_bad {n tg w : Nat} {lt : Int32} (h8 : S.1 24 8 = nI (t + n + 1)) (ht : t < 6405) (hX : S.2 31 t = vE tg w) (htg : tg < 3) (hw : w < 2 ^ 32) : G_44 (nI n) lt y S = some (.inl none, stS S 3 y) := by
  unfold G_44
  rw [h8, pk_sub (by omega), show t + n + 1 - n = t + 1 by omega, nI_pred, st_get ht, bJ_j, hX]
  unfold g_25 g_113 g_112
  rw [bI_i, bI_i, vE_tag (by omega) hw, bI_i, if_neg (fun h => by have := (nI_eq (by omega) (by decide)).mp (show nI tg = nI 3 from h); omega)]
  unfold G_44_47
  rw [stop_c, bV_v]
theorem call_fn {n f mu a : Nat} {lt : Int32} (h8 : S.1 24 8 = nI (t + n + 1)) (ht : t < 6405) (hX : S.2 31 t = vE 3 f) (hf : f < 2000) (hM : S.2 26 f = vE 0 mu) (hmu : mu < 28) (h15 : S.1 15 mu = nI a) : G_44 (nI n) lt y S = if nI a = nI n then if lt = 0 then if 60 ≤ (S.1 24 11) then some (.inl none, stS S 4 y) else az_bV (g_46 (nI n) S) fun S10 => G_44_90 (nI n) y (nI mu) S10 else az_bV (G_45 (nI n) S) fun S11 => G_44_90 (nI n) y (nI mu) S11 else some (.inl none, stS S 3 y) := by
  unfold G_44
  rw [h8, pk_sub (by omega), show t + n + 1 - n = t + 1 by omega, nI_pred, st_get ht, bJ_j, hX]
  unfold g_25 g_113 g_112 g_15 G_44_47
  rw [bI_i, vE_body (by decide) (by omega), az_rj_in _ _ _ hf (by decide), hM, vE_body (by decide) (by omega), bI_i, vE_tag (by decide) (by omega), bI_i, if_pos (show nI 3 = 3 from rfl), az_rg_in _ _ _ hmu (by decide), h15, bI_i, stop_c, stop_c, bV_v, bV_v]
def afS (S : amS) (wt p b t : Nat) : amS := sI (sI (sI (sI S 32 wt (nI p)) 33 wt (nI b)) 24 11 (nI (wt + 1))) 24 9 (nI (t + 1))
theorem frame_c {n : Nat} (hV : cV S (t + n + 1) b p wt) (hw : wt < 60) : g_46 (nI n) S = some (.inl none, afS S wt p b t) := by
  obtain ⟨v1, v2, v3, v4, v5⟩ := hV
  simp only [g_46, az_st]
  rw [v4, v3, sR_in _ _ _ _ _ hw (by decide)]
  have e1 : (sI S 32 wt (nI p)).1 24 11 = nI wt := v4
  have e2 : (sI S 32 wt (nI p)).1 24 9 = nI b := v2
  rw [e1, e2, sR_in _ _ _ _ _ hw (by decide)]
  have e3 : (sI (sI S 32 wt (nI p)) 33 wt (nI b)).1 24 11 = nI wt := v4
  rw [e3, nI_1]
  have e4 : (sI (sI (sI S 32 wt (nI p)) 33 wt (nI b)) 24 11 (nI (wt + 1))).1 24 8 = nI (t + n + 1) := v1
  rw [e4, pk_sub (by omega), show t + n + 1 - n = t + 1 by omega]
  rfl
/-- a frame takes the place of another -/
theorem repl_c {n b0 : Nat} (hb : S.1 24 9 = nI (b0 + 1)) (hbt : b0 < t) (ht : t + n < 6405) : ∀ (r i : Nat) (S1 : amS), i + r = n + 1 → S1.1 = S.1 → (∀ a, a ≠ 31 → S1.2 a = S.2 a) → (∀ z, z < i → S1.2 31 (b0 + z) = S.2 31 (t + z)) → (∀ z, (z < b0 ∨ b0 + i ≤ z) → S1.2 31 z = S.2 31 z) →
    ∃ S2, G_45_11 (nI n) (nI t) (nI i) S1 = some (.inl none, sI S2 24 8 (nI (b0 + 1 + n))) ∧ S2.1 = S.1 ∧ (∀ a, a ≠ 31 → S2.2 a = S.2 a) ∧ (∀ z, z ≤ n → S2.2 31 (b0 + z) = S.2 31 (t + z)) ∧ (∀ z, z < b0 → S2.2 31 z = S.2 31 z) := by
  intro r
  induction r with
  | zero =>
    intro i S1 hi h1 h2 h3 h4
    have : i = n + 1 := by omega
    subst this
    refine ⟨S1, ?_, h1, h2, fun z hz => h3 z (by omega), fun z hz => h4 z (Or.inl hz)⟩
    rw [G_45_11_eq]
    unfold B_45_11
    rw [if_pos (nI_lt (by omega) (by omega)), h1, hb, nI_add]
    rfl
  | succ r ih =>
    intro i S1 hi h1 h2 h3 h4
    rw [G_45_11_eq]
    unfold B_45_11
    rw [if_neg (nI_nlt (by omega) (by omega)), nI_add, st_get (by omega), bJ_j, h1, hb, nI_pred, nI_add]
    simp only [az_st]
    rw [sRJ_in _ _ _ _ _ (show b0 + i < 6405 by omega) (by decide), nI_1]
    refine ih (i + 1) (sJ S1 31 (b0 + i) (S1.2 31 (t + i))) (by omega) h1 (fun a ha => ?_) (fun z hz => ?_) (fun z hz => ?_)
    · funext z
      rw [sJ_na _ ha, h2 a ha]
    · by_cases hq : z = i
      · subst hq
        rw [sJ_eq]
        exact h4 _ (Or.inr (by omega))
      · rw [sJ_nk _ (by omega)]
        exact h3 z (by omega)
    · rw [sJ_nk _ (by omega)]
      exact h4 z (by omega)
theorem replace_c {n b0 : Nat} (h8 : S.1 24 8 = nI (t + n + 1)) (hb : S.1 24 9 = nI (b0 + 1)) (hbt : b0 < t) (ht : t + n < 6405) : ∃ S2, G_45 (nI n) S = some (.inl none, sI S2 24 8 (nI (b0 + 1 + n))) ∧ S2.1 = S.1 ∧ (∀ a, a ≠ 31 → S2.2 a = S.2 a) ∧ (∀ z, z ≤ n → S2.2 31 (b0 + z) = S.2 31 (t + z)) ∧ (∀ z, z < b0 → S2.2 31 z = S.2 31 z) := by
  obtain ⟨S2, z1, z2⟩ := repl_c (S := S) hb hbt ht (n + 1) 0 S (by omega) rfl (fun _ _ => rfl) (fun z hz => absurd hz (by omega)) (fun _ _ => rfl)
  refine ⟨S2, ?_, z2⟩
  have z1' : G_45_11 (nI n) (nI t) 0 S = _ := z1
  unfold G_45
  simp only [az_st]
  rw [h8, pk_sub (by omega), show t + n + 1 - n = t + 1 by omega, nI_pred, z1']
theorem enter_f {n mu q c0 : Nat} (hmu : mu < 28) (h13 : S.1 13 mu = nI q) (h16 : S.1 16 mu = nI c0) : G_44_90 (nI n) y (nI mu) S = G_44_117 (nI n) y (nI c0) 0 (sI S 24 10 (nI q)) := by
  unfold G_44_90 g_13 g_16
  rw [az_rg_in _ _ _ hmu (by decide), h13, bI_i]
  simp only [az_st]
  rw [az_rg_in _ _ _ hmu (by decide), show (sI S 24 10 (nI q)).1 16 mu = nI c0 from h16, bI_i]
theorem bl_end {n c0 : Nat} (hn : n < 2 ^ 31) : G_44_117 (nI n) y (nI c0) (nI n) S = some (.inl none, S) := by
  rw [G_44_117_eq]
  unfold B_44_117
  rw [if_pos (nI_le (Nat.le_refl _) hn)]
theorem bl_step {n c0 i : Nat} {S' : amS} (hi : i < n) (hn : n < 2 ^ 31) (hs : S.1 24 13 = 2) (h : g_43 (nI (c0 + i)) y S = some (.inl none, S')) : G_44_117 (nI n) y (nI c0) (nI i) S = G_44_117 (nI n) y (nI c0) (nI (i + 1)) S' := by
  rw [G_44_117_eq]
  unfold B_44_117
  rw [if_neg (nI_ge hi hn), if_pos hs, nI_add, h, bV_v, nI_1]
theorem bl_stop {n c0 i : Nat} (hs : S.1 24 13 = 5) : G_44_117 (nI n) y (nI c0) (nI i) S = some (.inl none, S) := by
  rw [G_44_117_eq]
  unfold B_44_117
  by_cases h : nI n ≤ nI i
  · rw [if_pos h]
  · rw [if_neg h, if_neg (by rw [hs]; decide)]
theorem c_call {n : Nat} {S' : amS} (hV : cV S t b p wt) (hc : c < 1000000) (hp : p ≤ 501) (tl : Bool) (hd : cd S p (if tl then 15 else 14) (nI n) y) (h : G_44 (nI n) (b2i tl) y (nx S p) = some (.inl none, S')) : G_32_4 l2 (nI c) S = G_32_4 l2 (nI (c + 1)) S' := by
  cases tl with
  | true =>
    have hd : cd S p 15 (nI n) y := hd
    rw [lp_obey hV hc hp hd (by decide) (by decide)]
    unfold G_34
    have h : G_44 (nI n) 1 y (nx S p) = _ := h
    rw [if_neg (by decide), if_neg (by decide), if_neg (by decide), if_neg (by decide), if_neg (by decide), if_neg (by decide), if_neg (by decide), if_neg (by decide), if_pos rfl, h, bV_v, bV_v]
  | false =>
    have hd : cd S p 14 (nI n) y := hd
    rw [lp_obey hV hc hp hd (by decide) (by decide)]
    unfold G_34
    have h : G_44 (nI n) 0 y (nx S p) = _ := h
    rw [if_neg (by decide), if_neg (by decide), if_neg (by decide), if_neg (by decide), if_neg (by decide), if_neg (by decide), if_neg (by decide), if_pos rfl, h, bV_v, bV_v]
end CSTEP2
