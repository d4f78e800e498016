/-! steps of the reference -/
section RREF
variable {R : amS} {m w fl : Nat}
theorem ref_give (h29 : R.1 34 29 = 2) (h53 : R.1 34 53 = -1) : G_173_49 R = az_bV (G_172 R) fun S1 => G_173_49 S1 := by
  rw [G_173_49_eq]
  unfold B_173_49 G_173_71
  rw [if_pos h29, if_pos (by rw [h53]; decide), if_pos (by rw [h53]; decide)]
def bgR (R : amS) (fl : Nat) : amS := sI (sI R 34 33 (nI fl)) 34 30 (R.1 34 30 + 1)
theorem ref_beg (h29 : R.1 34 29 = 2) (h53 : R.1 34 53 = nI m) (hm : m < 256) (h33 : R.1 34 33 = nI (fl + 1)) (hf : fl < 2000) : G_173_49 R = az_bV (G_168 (bgR R fl)) fun S4 => G_173_49 S4 := by
  rw [G_173_49_eq]
  unfold B_173_49 G_173_71
  have h0 : ¬ R.1 34 53 < 0 := by rw [h53]; exact nI_pos (by omega)
  have h1 : ¬ R.1 34 33 ≤ 0 := by rw [h33]; exact nI_ge (a := 0) (by omega) (by omega)
  rw [if_pos h29, if_neg h0, if_neg h1, if_neg h0]
  simp only [az_st]
  rw [h33, nI_pred]
  rfl
theorem ref_out (h29 : R.1 34 29 = 2) (h53 : R.1 34 53 = nI m) (hm : m < 256) (h33 : R.1 34 33 = 0) : G_173_49 R = some (.inl (some (.int 2)), R) := by
  rw [G_173_49_eq]
  unfold B_173_49 G_173_112 G_173_129
  have h0 : ¬ R.1 34 53 < 0 := by rw [h53]; exact nI_pos (by omega)
  rw [if_pos h29, if_neg h0, if_pos (by rw [h33]; decide), if_neg (by rw [h29]; decide)]
  simp only [az_st]
  rw [sI_self rfl, h29]
theorem ref_stop {st : Nat} (h29 : R.1 34 29 = nI st) (h2 : st ≠ 2) (h1 : st ≠ 1) (h5 : st ≤ 5) : G_173_49 R = some (.inl (some (.int (nI st))), R) := by
  rw [G_173_49_eq]
  unfold B_173_49 G_173_112 G_173_129
  rw [if_neg (fun h => by exact h2 ((nI_eq (by omega) (by decide)).mp (show nI st = nI 2 from h29.symm.trans h))), if_neg (fun h => by exact h1 ((nI_eq (by omega) (by decide)).mp (show nI st = nI 1 from h29.symm.trans h)))]
  simp only [az_st]
  rw [sI_self rfl, h29]
theorem ref_end (h29 : R.1 34 29 = 1) (h32 : R.1 34 32 = 0) : G_173_49 R = some (.inl (some (.int 1)), R) := by
  rw [G_173_49_eq]
  unfold B_173_49 G_173_112 G_173_129
  rw [if_neg (by rw [h29]; decide), if_pos h29]
  simp only [az_st]
  rw [← h32, sI_self rfl, h29]
/-- nothing is next -/
def b1R (R : amS) : amS := sI R 34 53 (-1)
theorem beg_0 (h53 : R.1 34 53 = nI m) (hm : m < 256) (h36 : R.1 36 m = 0) : G_168 R = some (.inl none, sJ (b1R R) 34 54 (vE 0 (R.1 38 m).toBitVec.toNat)) := by
  unfold G_168
  simp only [az_st]
  have e36 : (sI R 34 53 (-1)).1 36 m = 0 := h36
  rw [h53, az_ck_in hm (by decide), nI_clamp (by omega), e36, if_pos rfl, az_ck_in hm (by decide)]
  unfold g_155
  rw [bJ_j, vE_int]
  all_goals rfl
theorem beg_1 (h53 : R.1 34 53 = nI m) (hm : m < 256) (h36 : R.1 36 m = 1) : G_168 R = some (.inl none, sJ (b1R R) 34 54 (vE 1 0)) := by
  unfold G_168
  simp only [az_st]
  have e36 : (sI R 34 53 (-1)).1 36 m = 1 := h36
  have e : ∀ X : amS, g_156 1 0 X = some (.inl (some (.long (vE 1 0))), X) := fun X => by
    have := vE_made (t := 1) (i := 0) (by decide) (by decide)
    rw [show nI 1 = (1 : Int32) from rfl, show nI 0 = (0 : Int32) from rfl] at this
    unfold g_156
    rw [this]
  rw [h53, az_ck_in hm (by decide), nI_clamp (by omega), e36, if_neg (by decide), if_pos rfl, e, bJ_j]
  all_goals rfl
theorem beg_2 {k : Nat} (h53 : R.1 34 53 = nI m) (hm : m < 256) (h36 : R.1 36 m = 2) (hk : k < 120000) (hf : G_163 (R.1 38 m) (b1R R) = some (.inl (some (.int (nI k))), b1R R)) : G_168 R = some (.inl none, sJ (b1R R) 34 54 (R.2 57 k)) := by
  unfold G_168
  simp only [az_st]
  have e36 : (sI R 34 53 (-1)).1 36 m = 2 := h36
  have e38 : G_163 ((sI R 34 53 (-1)).1 38 m) (sI R 34 53 (-1)) = _ := hf
  rw [h53, az_ck_in hm (by decide), nI_clamp (by omega), e36, if_neg (by decide), if_neg (by decide), if_pos rfl, az_ck_in hm (by decide), e38, bI_i, az_ck_in hk (by decide), nI_clamp (by omega)]
  all_goals rfl
theorem beg_4 (h53 : R.1 34 53 = nI m) (hm : m < 256) (h36 : R.1 36 m = 4) (h49 : R.1 34 49 = nI w) (hw : w < 8000) : G_168 R = some (.inl none, sI (wtS (b1R R) w 1 (nI m)) 34 53 (R.1 39 m)) := by
  unfold G_168
  simp only [az_st]
  have e36 : (sI R 34 53 (-1)).1 36 m = 4 := h36
  rw [h53, az_ck_in hm (by decide), nI_clamp (by omega), e36, if_neg (by decide), if_neg (by decide), if_neg (by decide), if_neg (by decide), if_pos rfl, wait_m (show (sI R 34 53 (-1)).1 34 49 = nI w from h49) hw, bV_v, az_ck_in hm (by decide)]
  all_goals rfl
theorem beg_5 (h53 : R.1 34 53 = nI m) (hm : m < 256) (h36 : R.1 36 m = 5) (h49 : R.1 34 49 = nI w) (hw : w < 8000) : G_168 R = some (.inl none, sI (wtS (b1R R) w 2 (nI m)) 34 53 (R.1 39 m)) := by
  unfold G_168
  simp only [az_st]
  have e36 : (sI R 34 53 (-1)).1 36 m = 5 := h36
  rw [h53, az_ck_in hm (by decide), nI_clamp (by omega), e36, if_neg (by decide), if_neg (by decide), if_neg (by decide), if_neg (by decide), if_neg (by decide), if_pos rfl, wait_m (show (sI R 34 53 (-1)).1 34 49 = nI w from h49) hw, bV_v, az_ck_in hm (by decide)]
  all_goals rfl
theorem beg_7 (h53 : R.1 34 53 = nI m) (hm : m < 256) (h36 : R.1 36 m = 7) (h49 : R.1 34 49 = nI w) (hw : w < 8000) : G_168 R = some (.inl none, sI (wtS (b1R R) w 4 (nI m)) 34 53 (R.1 39 m)) := by
  unfold G_168
  simp only [az_st]
  have e36 : (sI R 34 53 (-1)).1 36 m = 7 := h36
  rw [h53, az_ck_in hm (by decide), nI_clamp (by omega), e36, if_neg (by decide), if_neg (by decide), if_neg (by decide), if_neg (by decide), if_neg (by decide), if_neg (by decide), if_neg (by decide), if_pos rfl, wait_m (show (sI R 34 53 (-1)).1 34 49 = nI w from h49) hw, bV_v, az_ck_in hm (by decide)]
  all_goals rfl
theorem beg_8 (h53 : R.1 34 53 = nI m) (hm : m < 256) (h36 : R.1 36 m = 8) : G_168 R = az_bV (g_166 (R.1 39 m) (b1R R)) fun S => some (.inl none, S) := by
  unfold G_168
  simp only [az_st]
  have e36 : (sI R 34 53 (-1)).1 36 m = 8 := h36
  rw [h53, az_ck_in hm (by decide), nI_clamp (by omega), e36, if_neg (by decide), if_neg (by decide), if_neg (by decide), if_neg (by decide), if_neg (by decide), if_neg (by decide), if_neg (by decide), if_neg (by decide), if_pos rfl, az_ck_in hm (by decide)]
  all_goals rfl
theorem beg_9 {kd : Int32} (hkd : kd = 9 ∨ kd = 10) (h53 : R.1 34 53 = nI m) (hm : m < 256) (h36 : R.1 36 m = kd) (h49 : R.1 34 49 = nI w) (hw : w < 8000) : G_168 R = some (.inl none, sI (wtS (b1R R) w 5 (nI m)) 34 53 (R.1 39 m)) := by
  unfold G_168
  simp only [az_st]
  have e36 : (sI R 34 53 (-1)).1 36 m = kd := h36
  have hn : ∀ z : Int32, (z = 0 ∨ z = 1 ∨ z = 2 ∨ z = 3 ∨ z = 4 ∨ z = 5 ∨ z = 6 ∨ z = 7 ∨ z = 8) → ¬ kd = z := by
    intro z hz h9
    rcases hkd with rfl | rfl <;> rcases hz with rfl | rfl | rfl | rfl | rfl | rfl | rfl | rfl | rfl <;> exact absurd h9 (by decide)
  rw [h53, az_ck_in hm (by decide), nI_clamp (by omega), e36, if_neg (hn 0 (by decide)), if_neg (hn 1 (by decide)), if_neg (hn 2 (by decide)), if_neg (hn 3 (by decide)), if_neg (hn 4 (by decide)), if_neg (hn 5 (by decide)), if_neg (hn 6 (by decide)), if_neg (hn 7 (by decide)), if_neg (hn 8 (by decide)), wait_m (show (sI R 34 53 (-1)).1 34 49 = nI w from h49) hw, bV_v, az_ck_in hm (by decide)]
  all_goals rfl
theorem obj_y {md k : Nat} (h31 : R.1 34 31 = nI md) (h : md + k ≤ 2000) : g_158 (nI k) (nI m) R = some (.inl (some (.int 1)), sI R 34 31 (nI (md + k))) := by
  unfold g_158
  rw [h31, nI_add, if_pos (show nI (md + k) ≤ 2000 from nI_le (b := 2000) h (by decide))]
  rfl
theorem obj_n {md k : Nat} (h31 : R.1 34 31 = nI md) (h : 2000 < md + k) (hk : md + k < 2 ^ 31) (hm : m < 256) : g_158 (nI k) (nI m) R = some (.inl (some (.int 0)), stR (sI R 34 31 2000) 5 m) := by
  unfold g_158
  rw [h31, nI_add, if_neg (show ¬ nI (md + k) ≤ 2000 from nI_ge (a := 2000) h hk)]
  simp only [az_st]
  rw [stop_m hm, bV_v]
theorem beg_3n {md : Nat} (h53 : R.1 34 53 = nI m) (hm : m < 256) (h36 : R.1 36 m = 3) (h31 : R.1 34 31 = nI md) (h : 2000 < md + 1) (hk : md ≤ 2000) : G_168 R = some (.inl none, stR (sI (b1R R) 34 31 2000) 5 m) := by
  unfold G_168
  simp only [az_st]
  have e36 : (sI R 34 53 (-1)).1 36 m = 3 := h36
  have e : g_158 1 (nI m) (sI R 34 53 (-1)) = _ := obj_n (k := 1) (show (sI R 34 53 (-1)).1 34 31 = nI md from h31) h (by omega) hm
  rw [h53, az_ck_in hm (by decide), nI_clamp (by omega), e36, if_neg (by decide), if_neg (by decide), if_neg (by decide), if_pos rfl, e, bI_i, if_pos rfl]
  all_goals rfl
/-- a function more -/
def fnR (R : amS) (nf m md : Nat) : amS := sI (sJ (sI (sI (sI (b1R R) 34 31 (nI (md + 1))) 54 nf (nI m)) 55 nf (R.1 34 52)) 34 54 (vE 3 nf)) 34 39 (nI (nf + 1))
theorem beg_3y {md nf : Nat} (h53 : R.1 34 53 = nI m) (hm : m < 256) (h36 : R.1 36 m = 3) (h31 : R.1 34 31 = nI md) (h : md + 1 ≤ 2000) (h39 : R.1 34 39 = nI nf) (hn : nf < 2000) : G_168 R = some (.inl none, fnR R nf m md) := by
  unfold G_168
  simp only [az_st]
  have e36 : (sI R 34 53 (-1)).1 36 m = 3 := h36
  have e : g_158 1 (nI m) (sI R 34 53 (-1)) = _ := obj_y (k := 1) (show (sI R 34 53 (-1)).1 34 31 = nI md from h31) h
  have e39 : (sI (sI R 34 53 (-1)) 34 31 (nI (md + 1))).1 34 39 = nI nf := h39
  rw [h53, az_ck_in hm (by decide), nI_clamp (by omega), e36, if_neg (by decide), if_neg (by decide), if_neg (by decide), if_pos rfl, e, bI_i, if_neg (by decide), e39, az_ck_in hn (by decide), nI_clamp (by omega)]
  have e39b : (sI (sI (sI R 34 53 (-1)) 34 31 (nI (md + 1))) 54 nf (nI m)).1 34 39 = nI nf := h39
  have e39c : (sI (sI (sI (sI R 34 53 (-1)) 34 31 (nI (md + 1))) 54 nf (nI m)) 55 nf (R.1 34 52)).1 34 39 = nI nf := h39
  have e52 : (sI (sI (sI R 34 53 (-1)) 34 31 (nI (md + 1))) 54 nf (nI m)).1 34 52 = R.1 34 52 := rfl
  rw [e39b, az_ck_in hn (by decide), nI_clamp (by omega), e52, e39c]
  unfold g_156
  have ev := vE_made (t := 3) (i := nf) (by decide) (by omega)
  rw [show nI 3 = (3 : Int32) from rfl] at ev
  rw [ev, bJ_j]
  have e39d : (sJ (sI (sI (sI (sI R 34 53 (-1)) 34 31 (nI (md + 1))) 54 nf (nI m)) 55 nf (R.1 34 52)) 34 54 (vE 3 nf)).1 34 39 = nI nf := h39
  rw [e39d, nI_1]
  all_goals rfl
theorem beg_6n {md : Nat} (h53 : R.1 34 53 = nI m) (hm : m < 256) (h36 : R.1 36 m = 6) (h31 : R.1 34 31 = nI md) (h : 2000 < md + 1) (hk : md ≤ 2000) : G_168 R = some (.inl none, stR (sI (b1R R) 34 31 2000) 5 m) := by
  unfold G_168
  simp only [az_st]
  have e36 : (sI R 34 53 (-1)).1 36 m = 6 := h36
  have e : g_158 1 (nI m) (sI R 34 53 (-1)) = _ := obj_n (k := 1) (show (sI R 34 53 (-1)).1 34 31 = nI md from h31) h (by omega) hm
  rw [h53, az_ck_in hm (by decide), nI_clamp (by omega), e36, if_neg (by decide), if_neg (by decide), if_neg (by decide), if_neg (by decide), if_neg (by decide), if_neg (by decide), if_pos rfl, e, bI_i, if_pos rfl]
  all_goals rfl
theorem beg_6y {md k : Nat} {R2 : amS} (h53 : R.1 34 53 = nI m) (hm : m < 256) (h36 : R.1 36 m = 6) (h31 : R.1 34 31 = nI md) (h : md + 1 ≤ 2000)
    (hA : G_162 (R.1 43 (4 * m)) (vE 1 0) (R.1 34 52) (sI (b1R R) 34 31 (nI (md + 1))) = some (.inl (some (.int (nI k))), R2)) (h49 : R2.1 34 49 = nI w) (hw : w < 8000) : G_168 R = some (.inl none, sI (wtS (sI R2 34 52 (nI k)) w 3 (nI m)) 34 53 (R2.1 39 m)) := by
  unfold G_168
  simp only [az_st]
  have e36 : (sI R 34 53 (-1)).1 36 m = 6 := h36
  have e : g_158 1 (nI m) (sI R 34 53 (-1)) = _ := obj_y (k := 1) (show (sI R 34 53 (-1)).1 34 31 = nI md from h31) h
  have e1 : ∀ X : amS, g_156 1 0 X = some (.inl (some (.long (vE 1 0))), X) := fun X => by
    have := vE_made (t := 1) (i := 0) (by decide) (by decide)
    rw [show nI 1 = (1 : Int32) from rfl, show nI 0 = (0 : Int32) from rfl] at this
    unfold g_156
    rw [this]
  have e4 : (4 : Int32) * nI m = nI (4 * m) := by rw [show (4 : Int32) = nI 4 from rfl, pk_mul]
  rw [h53, az_ck_in hm (by decide), nI_clamp (by omega), e36, if_neg (by decide), if_neg (by decide), if_neg (by decide), if_neg (by decide), if_neg (by decide), if_neg (by decide), if_pos rfl, e, bI_i, if_neg (by decide), e4, az_ck_in (show 4 * m < 1024 by omega) (by decide), nI_clamp (by omega), e1, bJ_j]
  have hA' : G_162 ((sI (sI R 34 53 (-1)) 34 31 (nI (md + 1))).1 43 (4 * m)) (vE 1 0) ((sI (sI R 34 53 (-1)) 34 31 (nI (md + 1))).1 34 52) (sI (sI R 34 53 (-1)) 34 31 (nI (md + 1))) = _ := hA
  rw [hA', bI_i, wait_m (show (sI R2 34 52 (nI k)).1 34 49 = nI w from h49) hw, bV_v, az_ck_in hm (by decide)]
  all_goals rfl
/-- the wait on top is looked at: its link is in force -/
def lkR (R : amS) (w : Nat) : amS := sI R 34 52 (R.1 62 w)
theorem give_w (h49 : R.1 34 49 = nI (w + 1)) (hw : w < 8000) (h61 : R.1 61 w = nI m) : G_172 R = if R.1 60 w = 2 then G_172_54 (nI w) (nI m) (R.1 60 w) (lkR R w) else if R.1 60 w = 5 then G_172_54 (nI w) (nI m) (R.1 60 w) (lkR R w) else G_172_164 (nI m) (R.1 60 w) (lkR R w) := by
  unfold G_172
  rw [h49, if_neg (nI_ne0 (by omega) (by omega))]
  simp only [az_st]
  rw [nI_pred, az_ck_in hw (by decide), az_ck_in hw (by decide), az_ck_in hw (by decide), nI_clamp (by omega), h61]
  rfl
theorem give_end (h49 : R.1 34 49 = 0) : G_172 R = some (.inl none, sI R 34 29 1) := by
  unfold G_172
  rw [if_pos h49]
  rfl
/-- it is taken off -/
def ppR (R : amS) (w : Nat) : amS := sI R 34 49 (nI w)
theorem pop_0 (h49 : R.1 34 49 = nI (w + 1)) : G_172_164 (nI m) 0 R = az_bV (g_166 (nI m) (ppR R w)) fun S2 => some (.inl none, S2) := by
  unfold G_172_164
  simp only [az_st]
  rw [h49, nI_pred, if_pos (by trivial)]
  rfl
theorem pop_1 {a : Nat} (h49 : R.1 34 49 = nI (w + 1)) (hm : m < 256) (ha : a < 256) (h39 : R.1 39 m = nI a) : G_172_164 (nI m) 1 R = some (.inl none, sI (ppR R w) 34 53 (if R.2 34 54 = 0 then R.1 40 m else R.1 41 a)) := by
  unfold G_172_164 G_172_254
  simp only [az_st]
  rw [h49, nI_pred, if_neg (by decide), if_pos (by trivial), az_ck_in hm (by decide), az_ck_in hm (by decide), nI_clamp (by omega), show (sI R 34 49 (nI w)).1 39 m = nI a from h39, az_ck_in ha (by decide), nI_clamp (by omega)]
  by_cases hz : R.2 34 54 = 0
  · rw [if_pos hz, if_pos (by exact (lg_cmp_0 _ _).mpr hz)]
    rfl
  · rw [if_neg hz, if_neg (fun h => by exact hz ((lg_cmp_0 _ _).mp h))]
    rfl
theorem pop_2 (h49 : R.1 34 49 = nI (w + 1)) : G_172_164 (nI m) 2 R = az_bV (G_169 (nI m) (ppR R w)) fun S2 => some (.inl none, S2) := by
  unfold G_172_164
  simp only [az_st]
  rw [h49, nI_pred, if_neg (by decide), if_neg (by decide), if_pos (by trivial)]
  rfl
theorem pop_3 {k : Nat} (h49 : R.1 34 49 = nI (w + 1)) (hm : m < 256) (hk : k < 120000) (hf : G_163 (R.1 43 (4 * m)) (ppR R w) = some (.inl (some (.int (nI k))), ppR R w)) : G_172_164 (nI m) 3 R = az_bI (G_167 (nI m) (sJ (ppR R w) 57 k (R.2 34 54))) fun x7 S8 => az_bV (g_166 x7 S8) fun S9 => some (.inl none, S9) := by
  unfold G_172_164
  simp only [az_st]
  have e4 : (4 : Int32) * nI m = nI (4 * m) := by rw [show (4 : Int32) = nI 4 from rfl, pk_mul]
  have hf' : G_163 ((sI R 34 49 (nI w)).1 43 (4 * m)) (sI R 34 49 (nI w)) = _ := hf
  rw [h49, nI_pred, if_neg (by decide), if_neg (by decide), if_neg (by decide), if_pos (by trivial), e4, az_ck_in (show 4 * m < 1024 by omega) (by decide), nI_clamp (by omega), hf', bI_i, az_ck_in hk (by decide), nI_clamp (by omega)]
  rfl
theorem pop_4 {k : Nat} (h49 : R.1 34 49 = nI (w + 1)) (hm : m < 256) (hk : k < 120000) (hf : G_163 (R.1 38 m) (ppR R w) = some (.inl (some (.int (nI k))), ppR R w)) : G_172_164 (nI m) 4 R = some (.inl none, sJ (ppR R w) 57 k (R.2 34 54)) := by
  unfold G_172_164
  simp only [az_st]
  have hf' : G_163 ((sI R 34 49 (nI w)).1 38 m) (sI R 34 49 (nI w)) = _ := hf
  rw [h49, nI_pred, if_neg (by decide), if_neg (by decide), if_neg (by decide), if_neg (by decide), if_pos (by trivial), az_ck_in hm (by decide), nI_clamp (by omega), hf', bI_i, az_ck_in hk (by decide), nI_clamp (by omega)]
  rfl
theorem pop_5 (h49 : R.1 34 49 = nI (w + 1)) (hm : m < 256) : G_172_164 (nI m) 5 R = if R.1 36 m = 10 then az_bV (G_170 (nI m) (ppR R w)) fun S2 => some (.inl none, S2) else az_bV (g_171 (nI m) (ppR R w)) fun S1 => some (.inl none, S1) := by
  unfold G_172_164 G_172_336
  simp only [az_st]
  rw [h49, nI_pred, if_neg (by decide), if_neg (by decide), if_neg (by decide), if_neg (by decide), if_neg (by decide), if_pos (by trivial), az_ck_in hm (by decide), nI_clamp (by omega)]
  rfl
theorem pop_6 {wt : Nat} (h49 : R.1 34 49 = nI (w + 1)) (h32 : R.1 34 32 = nI (wt + 1)) : G_172_164 (nI m) 6 R = some (.inl none, sI (ppR R w) 34 32 (nI wt)) := by
  unfold G_172_164
  simp only [az_st]
  have e : (sI R 34 49 (nI w)).1 34 32 = nI (wt + 1) := h32
  rw [h49, nI_pred, if_neg (by decide), if_neg (by decide), if_neg (by decide), if_neg (by decide), if_neg (by decide), if_neg (by decide), if_pos (by trivial), e, nI_pred]
  rfl
/-- a value of an operand is held -/
def hlR (R : amS) (w hd i : Nat) : amS := sI (sI (sJ R 64 hd (R.2 34 54)) 34 51 (nI (hd + 1))) 63 w (nI (i + 1))
theorem hold_m {hd i k : Nat} {kd : Int32} (h51 : R.1 34 51 = nI hd) (hh : hd < 16000) (hw : w < 8000) (h63 : R.1 63 w = nI i) (hi : i < 5) (hk : k ≤ 5) (hm : m < 256) (hkd : (kd = 2 ∧ R.1 44 m = nI k) ∨ (kd = 5 ∧ R.1 42 m = nI k)) : G_172_54 (nI w) (nI m) kd R = if nI k ≤ nI (i + 1) then G_172_164 (nI m) kd (hlR R w hd i) else G_172_131 (nI w) (R.1 39 m) 0 (hlR R w hd i) := by
  unfold G_172_54
  simp only [az_st]
  have f1 : (sJ R 64 hd (R.2 34 54)).1 34 51 = nI hd := h51
  have f2 : (sI (sJ R 64 hd (R.2 34 54)) 34 51 (nI (hd + 1))).1 63 w = nI i := h63
  rw [h51, az_ck_in hh (by decide), nI_clamp (by omega), f1, nI_1, az_ck_in hw (by decide), az_ck_in hw (by decide), nI_clamp (by omega), f2, nI_1]
  have f3 : (sI (sI (sJ R 64 hd (R.2 34 54)) 34 51 (nI (hd + 1))) 63 w (nI (i + 1))).1 63 w = nI (i + 1) := sI_eq _ _ _ _
  unfold G_172_107
  rcases hkd with ⟨rfl, h⟩ | ⟨rfl, h⟩
  · have f4 : (sI (sI (sJ R 64 hd (R.2 34 54)) 34 51 (nI (hd + 1))) 63 w (nI (i + 1))).1 44 m = nI k := h
    rw [if_pos rfl, az_ck_in hm (by decide), nI_clamp (by omega), f4, az_ck_in hw (by decide), nI_clamp (by omega), f3, az_ck_in hm (by decide)]
    rfl
  · have f4 : (sI (sI (sJ R 64 hd (R.2 34 54)) 34 51 (nI (hd + 1))) 63 w (nI (i + 1))).1 42 m = nI k := h
    rw [if_neg (by decide), az_ck_in hm (by decide), nI_clamp (by omega), f4, az_ck_in hw (by decide), nI_clamp (by omega), f3, az_ck_in hm (by decide)]
    rfl
/-- to the next operand -/
theorem walk_m {cs : Nat → Nat} {i : Nat} (hw : w < 8000) (h63 : R.1 63 w = nI (i + 1)) (hi : i < 5) (hcs : ∀ z, z ≤ i + 1 → cs z < 256) (h41 : ∀ z, z < i + 1 → R.1 41 (cs z) = nI (cs (z + 1))) : ∀ (r z : Nat), z + r = i + 1 → G_172_131 (nI w) (nI (cs z)) (nI z) R = some (.inl none, sI R 34 53 (nI (cs (i + 1)))) := by
  intro r
  induction r with
  | zero =>
    intro z hz
    have : z = i + 1 := by omega
    subst this
    rw [G_172_131_eq]
    unfold B_172_131
    rw [az_ck_in hw (by decide), nI_clamp (by omega), h63, if_pos (nI_le (Nat.le_refl _) (by omega))]
    rfl
  | succ r ih =>
    intro z hz
    rw [G_172_131_eq]
    unfold B_172_131
    rw [az_ck_in hw (by decide), nI_clamp (by omega), h63, if_neg (nI_ge (by omega) (by omega)), az_ck_in (hcs z (by omega)) (by decide), nI_clamp (by have := hcs z (by omega); omega), h41 z (by omega), nI_1]
    exact ih (z + 1) (by omega)
theorem seq_1 {a : Nat} (ha : a < 256) (h41 : R.1 41 a = -1) : g_166 (nI a) R = some (.inl none, sI R 34 53 (nI a)) := by
  unfold g_166 g_166_20
  rw [az_ck_in ha (by decide), nI_clamp (by omega), h41, if_pos (by decide)]
  rfl
theorem seq_2 {a x : Nat} (ha : a < 256) (h41 : R.1 41 a = nI x) (hx : x < 256) (h49 : R.1 34 49 = nI w) (hw : w < 8000) : g_166 (nI a) R = some (.inl none, sI (wtS R w 0 (nI x)) 34 53 (nI a)) := by
  unfold g_166 g_166_20
  rw [az_ck_in ha (by decide), nI_clamp (by omega), h41, if_neg (nI_pos (by omega)), az_ck_in ha (by decide), wait_m h49 hw, bV_v]
  rfl
end RREF
