/-! primitives, both sides -/
section PRIM
variable {S R : amS} {l2 : Int32} {c t b p wt m hd : Nat} {x y : Int32}
def p1S (S : amS) (p t : Nat) : amS := sI (nx S p) 24 8 (nI t)
def p2S (S : amS) (p t : Nat) : amS := sI (p1S S p (t + 1)) 24 8 (nI t)
theorem p1_F : cF S (p1S S p t) := cF_I nx_F (by omega)
theorem p2_F : cF S (p2S S p t) := cF_I p1_F (by omega)
theorem p1_V (hV : cV S (t + 1) b p wt) : cV (p1S S p t) t b (p + 1) wt := ⟨rfl, hV.2.1, rfl, hV.2.2.2.1, hV.2.2.2.2⟩
theorem p2_V (hV : cV S (t + 2) b p wt) : cV (p2S S p t) t b (p + 1) wt := ⟨rfl, hV.2.1, rfl, hV.2.2.2.1, hV.2.2.2.2⟩
theorem pop_1x (hV : cV S (t + 1) b p wt) (ht : t < 6405) : g_38 (nx S p) = some (.inl (some (.long (S.2 31 t))), p1S S p t) := pop_c (S := nx S p) (nx_V hV).1 ht
theorem pop_2x (ht : t < 6405) : g_38 (p1S S p (t + 1)) = some (.inl (some (.long (S.2 31 t))), p2S S p t) := pop_c (S := p1S S p (t + 1)) rfl ht
theorem tru_1 : g_114 1 S = some (.inl (some (.long (vE 0 1))), S) := by
  have e : g_111 0 1 S = _ := valE_c (tg := 0) (by decide) 1
  unfold g_114 g_114_10
  rw [if_neg (by decide), e, bJ_j]
  rfl
theorem tru_0 : g_114 0 S = some (.inl (some (.long (vE 0 0))), S) := by
  have e : g_111 0 0 S = _ := valE_c (tg := 0) (by decide) 0
  unfold g_114 g_114_10
  rw [if_pos rfl, e, bJ_j]
  rfl
theorem c_same (hV : cV S (t + 2) b p wt) (hc : c < 1000000) (hp : p ≤ 501) (ht : t + 1 < 6405) (hd : cd S p 23 x y) : G_32_4 l2 (nI c) S = G_32_4 l2 (nI (c + 1)) (phS (p2S S p t) t (if S.2 31 t = S.2 31 (t + 1) then vE 0 1 else vE 0 0)) := by
  rw [lp_two hV hc hp hd (by decide) (by decide) (by decide)]
  unfold g_51 g_51_30
  rw [pop_1x (t := t + 1) hV ht, bJ_j, pop_2x (by omega), bJ_j, if_pos rfl]
  by_cases hz : S.2 31 t = S.2 31 (t + 1)
  · rw [if_pos ((lg_cmp_0 _ _).mpr hz), if_pos hz, tru_1, bJ_j, push_c (p2_V hV).1 (by omega), bV_v, bV_v]
  · rw [if_neg (fun h => hz ((lg_cmp_0 _ _).mp h)), if_neg hz, tru_0, bJ_j, push_c (p2_V hV).1 (by omega), bV_v, bV_v]
theorem c_cons {md : Nat} (hV : cV S (t + 2) b p wt) (hc : c < 1000000) (hp : p ≤ 501) (ht : t + 1 < 6405) (hd : cd S p 24 x y) (hm : S.1 25 3 = nI md) (h : md < 2000) : G_32_4 l2 (nI c) S = G_32_4 l2 (nI (c + 1)) (phS (mkS (p2S S p t) md (S.2 31 t) (S.2 31 (t + 1))) t (vE 2 md)) := by
  rw [lp_two hV hc hp hd (by decide) (by decide) (by decide)]
  unfold g_51
  have e : g_21 2 (S.2 31 t) (S.2 31 (t + 1)) (p2S S p t) = _ := make_c (tg := 2) (show (p2S S p t).1 25 3 = nI md from hm) h (by decide)
  rw [pop_1x (t := t + 1) hV ht, bJ_j, pop_2x (by omega), bJ_j, if_neg (by decide), if_pos rfl, e, bJ_j]
  unfold g_40
  rw [if_neg (no5 (by decide) (by omega)), push_c (show (mkS (p2S S p t) md (S.2 31 t) (S.2 31 (t + 1))).1 24 8 = nI t from rfl) (by omega), bV_v, bV_v, bV_v]
theorem c_cons_full (hV : cV S (t + 2) b p wt) (hc : c < 1000000) (hp : p ≤ 501) (ht : t + 1 < 6405) (hd : cd S p 24 x y) (hm : S.1 25 3 = nI 2000) : G_32_4 l2 (nI c) S = G_32_4 l2 (nI (c + 1)) (stS (p2S S p t) 5 y) := by
  rw [lp_two hV hc hp hd (by decide) (by decide) (by decide)]
  unfold g_51
  rw [pop_1x (t := t + 1) hV ht, bJ_j, pop_2x (by omega), bJ_j, if_neg (by decide), if_pos rfl, make_no (show (p2S S p t).1 25 3 = nI 2000 from hm), bJ_j]
  unfold g_40
  rw [if_pos is5, stop_c, bV_v, bV_v, bV_v]
def rkO : Nat → Int32 → Int32 → Int32
  | 0, x, y => x + y
  | 1, x, y => x - y
  | 2, x, y => x * y
  | 3, x, y => if y ≤ x then 0 else 1
  | _, x, y => if x = y then 1 else 0
theorem rk_c {o : Nat} (ho : o < 5) (x y : Int32) : g_52 (prO o) x y S = some (.inl (some (.int (rkO o x y))), S) := by
  have h5 : o = 0 ∨ o = 1 ∨ o = 2 ∨ o = 3 ∨ o = 4 := by omega
  unfold g_52
  rcases h5 with rfl | rfl | rfl | rfl | rfl
  · rw [if_pos (by decide)]; rfl
  · rw [if_neg (by decide), if_pos (by decide)]; rfl
  · rw [if_neg (by decide), if_neg (by decide), if_pos (by decide)]; rfl
  · rw [if_neg (by decide), if_neg (by decide), if_neg (by decide), if_pos (by decide)]
    show _ = some (Sum.inl (some (Value.int (if y ≤ x then 0 else 1))), S)
    by_cases h : y ≤ x
    · rw [if_pos h, if_pos h]
    · rw [if_neg h, if_neg h]
  · rw [if_neg (by decide), if_neg (by decide), if_neg (by decide), if_neg (by decide)]
    show _ = some (Sum.inl (some (Value.int (if x = y then 1 else 0))), S)
    by_cases h : x = y
    · rw [if_pos h, if_pos h]
    · rw [if_neg h, if_neg h]
theorem pr_ord {o : Nat} (ho : o < 5) : 6 < prO o ∧ 16 < prO o ∧ 22 < prO o ∧ prO o ≠ 23 ∧ prO o ≠ 24 := by
  have h5 : o = 0 ∨ o = 1 ∨ o = 2 ∨ o = 3 ∨ o = 4 := by omega
  rcases h5 with rfl | rfl | rfl | rfl | rfl <;> decide
theorem c_ar {o a1 a2 : Nat} (ho : o < 5) (hV : cV S (t + 2) b p wt) (hc : c < 1000000) (hp : p ≤ 501) (ht : t + 1 < 6405) (hd : cd S p (prO o) x y) (h1 : S.2 31 t = vE 0 a1) (h2 : S.2 31 (t + 1) = vE 0 a2) (b1 : a1 < 2 ^ 32) (b2 : a2 < 2 ^ 32) : G_32_4 l2 (nI c) S = G_32_4 l2 (nI (c + 1)) (phS (p2S S p t) t (vE 0 (rkO o (nI a1) (nI a2)).toBitVec.toNat)) := by
  obtain ⟨o1, o2, o3, o4, o5⟩ := pr_ord ho
  rw [lp_two hV hc hp hd o1 o2 o3]
  unfold g_51
  have e : ∀ v, g_111 0 v (p2S S p t) = _ := fun v => valE_c (tg := 0) (by decide) v
  rw [pop_1x (t := t + 1) hV ht, bJ_j, pop_2x (by omega), bJ_j, if_neg o4, if_neg o5, h1, h2]
  unfold g_112 g_113
  rw [vE_tag (by decide) b1, bI_i, if_pos (show nI 0 = 0 from rfl), vE_tag (by decide) b2, bI_i, if_pos (show nI 0 = 0 from rfl), vE_body (by decide) b1, bI_i, vE_body (by decide) b2, bI_i, rk_c ho, bI_i, e, bJ_j, push_c (p2_V hV).1 (by omega), bV_v, bV_v]
theorem c_ar_bad {o t1 t2 a1 a2 : Nat} (ho : o < 5) (hV : cV S (t + 2) b p wt) (hc : c < 1000000) (hp : p ≤ 501) (ht : t + 1 < 6405) (hd : cd S p (prO o) x y) (h1 : S.2 31 t = vE t1 a1) (h2 : S.2 31 (t + 1) = vE t2 a2) (b1 : a1 < 2 ^ 32) (b2 : a2 < 2 ^ 32) (c1 : t1 < 4) (c2 : t2 < 4) (hn : t1 ≠ 0 ∨ t2 ≠ 0) : G_32_4 l2 (nI c) S = G_32_4 l2 (nI (c + 1)) (stS (p2S S p t) 3 y) := by
  obtain ⟨o1, o2, o3, o4, o5⟩ := pr_ord ho
  rw [lp_two hV hc hp hd o1 o2 o3]
  unfold g_51 g_51_79
  rw [pop_1x (t := t + 1) hV ht, bJ_j, pop_2x (by omega), bJ_j, if_neg o4, if_neg o5, h1, h2]
  unfold g_112
  rw [vE_tag (by omega) b1, bI_i]
  by_cases hz : t1 = 0
  · rw [if_pos (by rw [hz]; rfl), vE_tag (by omega) b2, bI_i, if_neg (nI_ne0 (by omega) (by omega)), stop_c, bV_v, bV_v]
  · rw [if_neg (nI_ne0 (by omega) (by omega)), stop_c, bV_v, bV_v]
theorem c_isp {t1 a1 : Nat} (hV : cV S (t + 1) b p wt) (hc : c < 1000000) (hp : p ≤ 501) (ht : t < 6405) (hd : cd S p 19 x y) (h1 : S.2 31 t = vE t1 a1) (b1 : a1 < 2 ^ 32) (c1 : t1 < 4) : G_32_4 l2 (nI c) S = G_32_4 l2 (nI (c + 1)) (phS (p1S S p t) t (if t1 = 2 then vE 0 1 else vE 0 0)) := by
  rw [lp_one hV hc hp hd (by decide) (by decide) (by decide)]
  unfold g_48 g_48_50
  rw [pop_1x hV ht, bJ_j, if_pos rfl, h1]
  unfold g_112
  rw [vE_tag (by omega) b1, bI_i]
  by_cases hz : t1 = 2
  · rw [if_pos (by rw [hz]; rfl), if_pos hz, tru_1, bJ_j, push_c (p1_V hV).1 ht, bV_v, bV_v]
  · rw [if_neg (fun h => by exact hz ((nI_eq (by omega) (by decide)).mp (show nI t1 = nI 2 from h))), if_neg hz, tru_0, bJ_j, push_c (p1_V hV).1 ht, bV_v, bV_v]
theorem c_isn (hV : cV S (t + 1) b p wt) (hc : c < 1000000) (hp : p ≤ 501) (ht : t < 6405) (hd : cd S p 20 x y) : G_32_4 l2 (nI c) S = G_32_4 l2 (nI (c + 1)) (phS (p1S S p t) t (if S.2 31 t = vE 1 0 then vE 0 1 else vE 0 0)) := by
  rw [lp_one hV hc hp hd (by decide) (by decide) (by decide)]
  unfold g_48 g_48_73
  rw [pop_1x hV ht, bJ_j, if_neg (by decide), if_pos rfl, vE_nil]
  by_cases hz : S.2 31 t = vE 1 0
  · rw [if_pos ((lg_cmp_0 _ _).mpr hz), if_pos hz, tru_1, bJ_j, push_c (p1_V hV).1 ht, bV_v, bV_v]
  · rw [if_neg (fun h => hz ((lg_cmp_0 _ _).mp h)), if_neg hz, tru_0, bJ_j, push_c (p1_V hV).1 ht, bV_v, bV_v]
theorem c_not (hV : cV S (t + 1) b p wt) (hc : c < 1000000) (hp : p ≤ 501) (ht : t < 6405) (hd : cd S p 21 x y) : G_32_4 l2 (nI c) S = G_32_4 l2 (nI (c + 1)) (phS (p1S S p t) t (if S.2 31 t = 0 then vE 0 1 else vE 0 0)) := by
  rw [lp_one hV hc hp hd (by decide) (by decide) (by decide)]
  unfold g_48 g_48_94
  rw [pop_1x hV ht, bJ_j, if_neg (by decide), if_neg (by decide), if_pos rfl]
  by_cases hz : S.2 31 t = 0
  · rw [if_pos ((lg_cmp_0 _ _).mpr hz), if_pos hz, tru_1, bJ_j, push_c (p1_V hV).1 ht, bV_v, bV_v]
  · rw [if_neg (fun h => hz ((lg_cmp_0 _ _).mp h)), if_neg hz, tru_0, bJ_j, push_c (p1_V hV).1 ht, bV_v, bV_v]
def ouS (S : amS) (tot : Nat) (v : Int32) : amS := sI (sI S 30 (tot % 200) v) 29 1 (nI (tot + 1))
theorem c_out {a1 tot : Nat} (hV : cV S (t + 1) b p wt) (hc : c < 1000000) (hp : p ≤ 501) (ht : t < 6405) (hd : cd S p 22 x y) (h1 : S.2 31 t = vE 0 a1) (b1 : a1 < 2 ^ 32) (h29 : S.1 29 1 = nI tot) (htot : tot < 2 ^ 31) : G_32_4 l2 (nI c) S = G_32_4 l2 (nI (c + 1)) (phS (ouS (p1S S p t) tot (nI a1)) t (vE 1 0)) := by
  rw [lp_one hV hc hp hd (by decide) (by decide) (by decide)]
  unfold g_48
  rw [pop_1x hV ht, bJ_j, if_neg (by decide), if_neg (by decide), if_neg (by decide), if_pos rfl, h1]
  unfold g_49 g_112 g_113 g_67
  simp only [az_st]
  have e29 : (p1S S p t).1 29 1 = nI tot := h29
  rw [vE_tag (by decide) b1, bI_i, if_pos (show nI 0 = 0 from rfl), vE_body (by decide) b1, bI_i, e29, show (200 : Int32) = nI 200 from rfl, az_rem_nI htot (by decide) (by decide), sR_in _ _ _ _ _ (Nat.mod_lt _ (by decide)) (by decide)]
  have e29b : (sI (p1S S p t) 30 (tot % 200) (nI a1)).1 29 1 = nI tot := h29
  rw [e29b, nI_1, bV_v, push_c (show (sI (sI (p1S S p t) 30 (tot % 200) (nI a1)) 29 1 (nI (tot + 1))).1 24 8 = nI t from rfl) ht, bV_v, bV_v, bV_v, vE_nil]
  rfl
theorem c_out_bad {t1 a1 : Nat} (hV : cV S (t + 1) b p wt) (hc : c < 1000000) (hp : p ≤ 501) (ht : t < 6405) (hd : cd S p 22 x y) (h1 : S.2 31 t = vE t1 a1) (b1 : a1 < 2 ^ 32) (c1 : t1 < 4) (hn : t1 ≠ 0) : G_32_4 l2 (nI c) S = G_32_4 l2 (nI (c + 1)) (stS (p1S S p t) 3 y) := by
  rw [lp_one hV hc hp hd (by decide) (by decide) (by decide)]
  unfold g_48
  rw [pop_1x hV ht, bJ_j, if_neg (by decide), if_neg (by decide), if_neg (by decide), if_pos rfl, h1]
  unfold g_49 g_112
  rw [vE_tag (by omega) b1, bI_i, if_neg (nI_ne0 (by omega) (by omega)), stop_c, bV_v, bV_v, bV_v]
theorem c_apart {a1 : Nat} (o : Int32) (ho : o = 17 ∨ o = 18) (hV : cV S (t + 1) b p wt) (hc : c < 1000000) (hp : p ≤ 501) (ht : t < 6405) (hd : cd S p o x y) (h1 : S.2 31 t = vE 2 a1) (b1 : a1 < 2000) : G_32_4 l2 (nI c) S = G_32_4 l2 (nI (c + 1)) (phS (p1S S p t) t (if o = 17 then S.2 26 a1 else S.2 27 a1)) := by
  have e26 : (p1S S p t).2 26 = S.2 26 := rfl
  have e27 : (p1S S p t).2 27 = S.2 27 := rfl
  rcases ho with rfl | rfl
  · rw [lp_one hV hc hp hd (by decide) (by decide) (by decide)]
    unfold g_48
    rw [pop_1x hV ht, bJ_j, if_neg (by decide), if_neg (by decide), if_neg (by decide), if_neg (by decide), h1]
    unfold g_50 g_112 g_23 g_113 g_50_42
    rw [vE_tag (by decide) (by omega), bI_i, if_pos (show nI 2 = 2 from rfl), if_pos rfl, if_pos rfl, vE_body (by decide) (by omega), bI_i, az_rj_in _ _ _ b1 (by decide), bJ_j, push_c (p1_V hV).1 ht, bV_v, bV_v, bV_v]
    all_goals rfl
  · rw [lp_one hV hc hp hd (by decide) (by decide) (by decide)]
    unfold g_48
    rw [pop_1x hV ht, bJ_j, if_neg (by decide), if_neg (by decide), if_neg (by decide), if_neg (by decide), h1]
    unfold g_50 g_112 g_24 g_113 g_50_42
    rw [vE_tag (by decide) (by omega), bI_i, if_pos (show nI 2 = 2 from rfl), if_neg (by decide), if_neg (by decide), vE_body (by decide) (by omega), bI_i, az_rj_in _ _ _ b1 (by decide), bJ_j, push_c (p1_V hV).1 ht, bV_v, bV_v, bV_v]
    all_goals rfl
theorem c_apart_bad {t1 a1 : Nat} (o : Int32) (ho : o = 17 ∨ o = 18) (hV : cV S (t + 1) b p wt) (hc : c < 1000000) (hp : p ≤ 501) (ht : t < 6405) (hd : cd S p o x y) (h1 : S.2 31 t = vE t1 a1) (b1 : a1 < 2 ^ 32) (c1 : t1 < 4) (hn : t1 ≠ 2) : G_32_4 l2 (nI c) S = G_32_4 l2 (nI (c + 1)) (stS (p1S S p t) 3 y) := by
  have hne : ¬ nI t1 = 2 := fun h => by exact hn ((nI_eq (by omega) (by decide)).mp (show nI t1 = nI 2 from h))
  rcases ho with rfl | rfl
  · rw [lp_one hV hc hp hd (by decide) (by decide) (by decide)]
    unfold g_48
    rw [pop_1x hV ht, bJ_j, if_neg (by decide), if_neg (by decide), if_neg (by decide), if_neg (by decide), h1]
    unfold g_50 g_112
    rw [vE_tag (by omega) b1, bI_i, if_neg hne, stop_c, bV_v, bV_v, bV_v]
  · rw [lp_one hV hc hp hd (by decide) (by decide) (by decide)]
    unfold g_48
    rw [pop_1x hV ht, bJ_j, if_neg (by decide), if_neg (by decide), if_neg (by decide), if_neg (by decide), h1]
    unfold g_50 g_112
    rw [vE_tag (by omega) b1, bI_i, if_neg hne, stop_c, bV_v, bV_v, bV_v]
/-- the reference's primitives, their operands taken off -/
def pF (l1 x1 : Int32) (x4 x5 : Int64) (S3 : amS) : amQ := if 5 ≤ x1 then if x1 = 7 then g_171_99 l1 x1 x4 x5 (Int64.toInt32 x4) (Int64.toInt32 x5) S3 else if x1 = 8 then g_171_99 l1 x1 x4 x5 (Int64.toInt32 x4) (Int64.toInt32 x5) S3 else if x1 = 12 then az_bI (g_157 x4 S3) fun x8 S9 => if x8 = 0 then g_171_130 l1 x1 x4 x5 (Int64.toInt32 x4) (Int64.toInt32 x5) S9 else g_171_135 l1 x1 x4 x5 (Int64.toInt32 x4) (Int64.toInt32 x5) 0 S9 else g_171_130 l1 x1 x4 x5 (Int64.toInt32 x4) (Int64.toInt32 x5) S3 else az_bI (g_157 x4 S3) fun x10 S11 => if x10 = 0 then az_bI (g_157 x5 S11) fun x12 S13 => if x12 = 0 then g_171_135 l1 x1 x4 x5 (Int64.toInt32 x4) (Int64.toInt32 x5) 1 S13 else g_171_83 l1 x1 x4 x5 (Int64.toInt32 x4) (Int64.toInt32 x5) S13 else g_171_83 l1 x1 x4 x5 (Int64.toInt32 x4) (Int64.toInt32 x5) S11
def tfR (R : amS) (hd : Nat) : amS := sI R 34 51 (nI hd)
theorem pr_front {o k : Nat} (hm : m < 256) (h38 : R.1 38 m = nI o) (h42 : R.1 42 m = nI k) (h51 : R.1 34 51 = nI (hd + k)) (hh : hd + 1 < 16000) : g_171 (nI m) R = pF (nI m) (nI o) (R.2 64 hd) (R.2 64 (hd + 1)) (tfR R hd) := by
  unfold g_171
  simp only [az_st]
  rw [az_ck_in hm (by decide), az_ck_in hm (by decide), nI_clamp (by omega), h38, h42, h51, pk_sub (by omega), Nat.add_sub_cancel, sI_eq, az_ck_in (show hd < 16000 by omega) (by decide), nI_clamp (by omega), nI_1, az_ck_in hh (by decide), nI_clamp (by omega)]
  rfl
theorem m_bad {o : Int32} {v0 v1 : Int64} {u0 u1 : Int32} (hm : m < 256) : g_171_135 (nI m) o v0 v1 u0 u1 0 R = some (.inl none, stR R 3 m) := by
  unfold g_171_135 g_171_158 g_171_169
  rw [if_pos (by decide), if_pos (by decide), stop_m hm, bV_v]
theorem m_ar {o a1 a2 : Nat} (ho : o < 5) (b1 : a1 < 2 ^ 32) (b2 : a2 < 2 ^ 32) : pF (nI m) (nI o) (vE 0 a1) (vE 0 a2) R = some (.inl none, sJ R 34 54 (vE 0 (rkO o (nI a1) (nI a2)).toBitVec.toNat)) := by
  unfold pF
  rw [if_neg (show ¬ (5 : Int32) ≤ nI o from nI_ge ho (by decide)), vE_body (by decide) b1, vE_body (by decide) b2]
  unfold g_157
  rw [bI_i, vE_kind (by decide) b1, if_pos (show nI 0 = 0 from rfl), bI_i, vE_kind (by decide) b2, if_pos (show nI 0 = 0 from rfl)]
  unfold g_171_135
  rw [if_neg (by decide), if_neg (fun h => by have := (nI_eq (by omega) (by decide)).mp (show nI o = nI 6 from h); omega)]
  have h5 : o = 0 ∨ o = 1 ∨ o = 2 ∨ o = 3 ∨ o = 4 := by omega
  unfold g_171_174 g_155 g_171_294 g_171_313
  rcases h5 with rfl | rfl | rfl | rfl | rfl
  · rw [if_pos (by decide), bJ_j, vE_int]; rfl
  · rw [if_neg (by decide), if_pos (by decide), bJ_j, vE_int]; rfl
  · rw [if_neg (by decide), if_neg (by decide), if_pos (by decide), bJ_j, vE_int]; rfl
  · rw [if_neg (by decide), if_neg (by decide), if_neg (by decide), if_pos (by decide)]
    show _ = some (Sum.inl none, sJ R 34 54 (vE 0 (if nI a2 ≤ nI a1 then (0 : Int32) else 1).toBitVec.toNat))
    by_cases h : nI a2 ≤ nI a1
    · rw [if_pos h, if_pos h]; rfl
    · rw [if_neg h, if_neg h]; rfl
  · rw [if_neg (by decide), if_neg (by decide), if_neg (by decide), if_neg (by decide), if_pos (by decide)]
    show _ = some (Sum.inl none, sJ R 34 54 (vE 0 (if nI a1 = nI a2 then (1 : Int32) else 0).toBitVec.toNat))
    by_cases h : nI a1 = nI a2
    · rw [if_pos h, if_pos h]; rfl
    · rw [if_neg h, if_neg h]; rfl
theorem m_ar_bad {o t1 t2 a1 a2 : Nat} (hm : m < 256) (ho : o < 5) (b1 : a1 < 2 ^ 32) (b2 : a2 < 2 ^ 32) (c1 : t1 < 4) (c2 : t2 < 4) (hn : t1 ≠ 0 ∨ t2 ≠ 0) : pF (nI m) (nI o) (vE t1 a1) (vE t2 a2) R = some (.inl none, stR R 3 m) := by
  unfold pF
  rw [if_neg (show ¬ (5 : Int32) ≤ nI o from nI_ge ho (by decide))]
  unfold g_157 g_171_83
  rw [bI_i, vE_kind (by omega) b1]
  by_cases hz : t1 = 0
  · rw [if_pos (by rw [hz]; rfl), bI_i, vE_kind (by omega) b2, if_neg (nI_ne0 (by omega) (by omega)), m_bad hm]
  · rw [if_neg (nI_ne0 (by omega) (by omega)), m_bad hm]
theorem m_same {v0 v1 : Int64} : pF (nI m) (nI 5) v0 v1 R = some (.inl none, sJ R 34 54 (if v0 = v1 then vE 0 1 else vE 0 0)) := by
  unfold pF g_171_130 g_171_135
  rw [if_pos (by decide), if_neg (by decide), if_neg (by decide), if_neg (by decide), if_neg (by decide), if_neg (by decide)]
  unfold g_171_174 g_171_333
  rw [if_neg (by decide), if_neg (by decide), if_neg (by decide), if_neg (by decide), if_neg (by decide), if_pos (by decide)]
  by_cases hz : v0 = v1
  · rw [if_pos ((lg_cmp_0 _ _).mpr hz), if_pos hz, vE_1]; rfl
  · rw [if_neg (fun h => hz ((lg_cmp_0 _ _).mp h)), if_neg hz, vE_0]; rfl
theorem m_cons_full {v0 v1 : Int64} (hm : m < 256) (h31 : R.1 34 31 = 2000) : pF (nI m) (nI 6) v0 v1 R = some (.inl none, stR R 5 m) := by
  unfold pF g_171_130 g_171_135 g_171_158 g_171_169
  rw [if_pos (by decide), if_neg (by decide), if_neg (by decide), if_neg (by decide), if_neg (by decide), if_pos (by decide), if_pos h31, if_neg (by decide), stop_m hm, bV_v]
def coM (R : amS) (np md : Nat) (v0 v1 : Int64) : amS := sI (sJ (sJ (sJ (sI R 34 31 (nI (md + 1))) 52 np v0) 53 np v1) 34 54 (vE 2 np)) 34 36 (nI (np + 1))
theorem m_cons {v0 v1 : Int64} {md np : Nat} (h31 : R.1 34 31 = nI md) (hmd : md < 2000) (h36 : R.1 34 36 = nI np) (hn : np < 2000) : pF (nI m) (nI 6) v0 v1 R = some (.inl none, coM R np md v0 v1) := by
  unfold pF g_171_130 g_171_135
  rw [if_pos (by decide), if_neg (by decide), if_neg (by decide), if_neg (by decide), if_neg (by decide), if_pos (by decide), if_neg (fun h => by rw [h31] at h; have := (nI_eq (by omega) (by decide)).mp (show nI md = nI 2000 from h); omega)]
  unfold g_171_174 g_156
  rw [if_neg (by decide), if_neg (by decide), if_neg (by decide), if_neg (by decide), if_neg (by decide), if_neg (by decide), if_pos (by decide)]
  simp only [az_st]
  have f1 : (sI R 34 31 (nI (md + 1))).1 34 36 = nI np := h36
  have f2 : (sJ (sI R 34 31 (nI (md + 1))) 52 np v0).1 34 36 = nI np := h36
  have f3 : (sJ (sJ (sI R 34 31 (nI (md + 1))) 52 np v0) 53 np v1).1 34 36 = nI np := h36
  have f4 : (sJ (sJ (sJ (sI R 34 31 (nI (md + 1))) 52 np v0) 53 np v1) 34 54 (vE 2 np)).1 34 36 = nI np := h36
  have ev := vE_made (t := 2) (i := np) (by decide) (by omega)
  rw [show nI 2 = (2 : Int32) from rfl] at ev
  rw [h31, nI_1, f1, az_ck_in hn (by decide), nI_clamp (by omega), f2, az_ck_in hn (by decide), nI_clamp (by omega), f3, ev, bJ_j, f4, nI_1]
  rfl
theorem m_apart {o a1 : Nat} {v1 : Int64} (ho : o = 7 ∨ o = 8) (b1 : a1 < 2000) : pF (nI m) (nI o) (vE 2 a1) v1 R = some (.inl none, sJ R 34 54 (if o = 7 then R.2 52 a1 else R.2 53 a1)) := by
  unfold pF g_171_99 g_157
  rw [vE_body (by decide) (by omega)]
  rcases ho with rfl | rfl
  · rw [if_pos (by decide), if_pos (by decide), bI_i, vE_kind (by decide) (by omega), if_pos (show nI 2 = 2 from rfl), if_pos (by decide)]
    unfold g_171_135
    rw [if_neg (by decide), if_neg (by decide)]
    unfold g_171_174
    rw [if_neg (by decide), if_neg (by decide), if_neg (by decide), if_neg (by decide), if_neg (by decide), if_neg (by decide), if_neg (by decide), if_pos (by decide), az_ck_in b1 (by decide), nI_clamp (by omega)]
    rfl
  · rw [if_pos (by decide), if_neg (by decide), if_pos (by decide), bI_i, vE_kind (by decide) (by omega), if_pos (show nI 2 = 2 from rfl), if_neg (by decide)]
    unfold g_171_135
    rw [if_neg (by decide), if_neg (by decide)]
    unfold g_171_174
    rw [if_neg (by decide), if_neg (by decide), if_neg (by decide), if_neg (by decide), if_neg (by decide), if_neg (by decide), if_neg (by decide), if_neg (by decide), if_pos (by decide), az_ck_in b1 (by decide), nI_clamp (by omega)]
    rfl
theorem m_apart_bad {o t1 a1 : Nat} {v1 : Int64} (hm : m < 256) (ho : o = 7 ∨ o = 8) (b1 : a1 < 2 ^ 32) (c1 : t1 < 4) (hn : t1 ≠ 2) : pF (nI m) (nI o) (vE t1 a1) v1 R = some (.inl none, stR R 3 m) := by
  have hne : ¬ nI t1 = 2 := fun h => by exact hn ((nI_eq (by omega) (by decide)).mp (show nI t1 = nI 2 from h))
  unfold pF g_171_99 g_157
  rcases ho with rfl | rfl
  · rw [if_pos (by decide), if_pos (by decide), bI_i, vE_kind (by omega) b1, if_neg hne, m_bad hm]
  · rw [if_pos (by decide), if_neg (by decide), if_pos (by decide), bI_i, vE_kind (by omega) b1, if_neg hne, m_bad hm]
theorem m_isp {t1 a1 : Nat} {v1 : Int64} (b1 : a1 < 2 ^ 32) (c1 : t1 < 4) : pF (nI m) (nI 9) (vE t1 a1) v1 R = some (.inl none, sJ R 34 54 (if t1 = 2 then vE 0 1 else vE 0 0)) := by
  unfold pF g_171_130 g_171_135
  rw [if_pos (by decide), if_neg (by decide), if_neg (by decide), if_neg (by decide), if_neg (by decide), if_neg (by decide)]
  unfold g_171_174 g_171_439 g_157
  rw [if_neg (by decide), if_neg (by decide), if_neg (by decide), if_neg (by decide), if_neg (by decide), if_neg (by decide), if_neg (by decide), if_neg (by decide), if_neg (by decide), if_pos (by decide), bI_i, vE_kind (by omega) b1]
  by_cases hz : t1 = 2
  · rw [if_pos (by rw [hz]; rfl), if_pos hz, vE_1]; rfl
  · rw [if_neg (fun h => by exact hz ((nI_eq (by omega) (by decide)).mp (show nI t1 = nI 2 from h))), if_neg hz, vE_0]; rfl
theorem m_isn {t1 a1 : Nat} {v1 : Int64} (b1 : a1 < 2 ^ 32) (c1 : t1 < 4) : pF (nI m) (nI 10) (vE t1 a1) v1 R = some (.inl none, sJ R 34 54 (if t1 = 1 then vE 0 1 else vE 0 0)) := by
  unfold pF g_171_130 g_171_135
  rw [if_pos (by decide), if_neg (by decide), if_neg (by decide), if_neg (by decide), if_neg (by decide), if_neg (by decide)]
  unfold g_171_174 g_171_460 g_157
  rw [if_neg (by decide), if_neg (by decide), if_neg (by decide), if_neg (by decide), if_neg (by decide), if_neg (by decide), if_neg (by decide), if_neg (by decide), if_neg (by decide), if_neg (by decide), if_pos (by decide), bI_i, vE_kind (by omega) b1]
  by_cases hz : t1 = 1
  · rw [if_pos (by rw [hz]; rfl), if_pos hz, vE_1]; rfl
  · rw [if_neg (fun h => by exact hz ((nI_eq (by omega) (by decide)).mp (show nI t1 = nI 1 from h))), if_neg hz, vE_0]; rfl
theorem m_not {v0 v1 : Int64} : pF (nI m) (nI 11) v0 v1 R = some (.inl none, sJ R 34 54 (if v0 = 0 then vE 0 1 else vE 0 0)) := by
  unfold pF g_171_130 g_171_135
  rw [if_pos (by decide), if_neg (by decide), if_neg (by decide), if_neg (by decide), if_neg (by decide), if_neg (by decide)]
  unfold g_171_174 g_171_479
  rw [if_neg (by decide), if_neg (by decide), if_neg (by decide), if_neg (by decide), if_neg (by decide), if_neg (by decide), if_neg (by decide), if_neg (by decide), if_neg (by decide), if_neg (by decide), if_neg (by decide), if_pos (by decide)]
  by_cases hz : v0 = 0
  · rw [if_pos ((lg_cmp_0 _ _).mpr hz), if_pos hz, vE_1]; rfl
  · rw [if_neg (fun h => hz ((lg_cmp_0 _ _).mp h)), if_neg hz, vE_0]; rfl
def ouM (R : amS) (tot : Nat) (v : Int32) : amS := sJ (sI (sI R 65 (tot % 200) v) 34 55 (nI (tot + 1))) 34 54 (vE 1 0)
theorem m_out {a1 tot : Nat} {v1 : Int64} (b1 : a1 < 2 ^ 32) (h55 : R.1 34 55 = nI tot) (ht : tot < 2 ^ 31) : pF (nI m) (nI 12) (vE 0 a1) v1 R = some (.inl none, ouM R tot (nI a1)) := by
  unfold pF g_157 g_171_130
  rw [if_pos (by decide), if_neg (by decide), if_neg (by decide), if_pos (by decide), bI_i, vE_kind (by decide) b1, if_pos (show nI 0 = 0 from rfl), vE_body (by decide) b1]
  unfold g_171_135
  rw [if_neg (by decide), if_neg (by decide)]
  unfold g_171_174 g_156
  rw [if_neg (by decide), if_neg (by decide), if_neg (by decide), if_neg (by decide), if_neg (by decide), if_neg (by decide), if_neg (by decide), if_neg (by decide), if_neg (by decide), if_neg (by decide), if_neg (by decide), if_neg (by decide)]
  simp only [az_st]
  have ev := vE_made (t := 1) (i := 0) (by decide) (by decide)
  rw [show nI 1 = (1 : Int32) from rfl, show nI 0 = (0 : Int32) from rfl] at ev
  have hlt : tot % 200 < 200 := Nat.mod_lt _ (by decide)
  have f1 : (sI R 65 (tot % 200) (nI a1)).1 34 55 = nI tot := h55
  rw [h55, show (200 : Int32) = nI 200 from rfl, az_rem_nI ht (by decide) (by decide), az_ck_in hlt (by decide), nI_clamp (by omega), f1, nI_1, ev, bJ_j]
  rfl
theorem m_out_bad {t1 a1 : Nat} {v1 : Int64} (hm : m < 256) (b1 : a1 < 2 ^ 32) (c1 : t1 < 4) (hn : t1 ≠ 0) : pF (nI m) (nI 12) (vE t1 a1) v1 R = some (.inl none, stR R 3 m) := by
  unfold pF g_157
  rw [if_pos (by decide), if_neg (by decide), if_neg (by decide), if_pos (by decide), bI_i, vE_kind (by omega) b1, if_neg (nI_ne0 (by omega) (by omega)), m_bad hm]
end PRIM
