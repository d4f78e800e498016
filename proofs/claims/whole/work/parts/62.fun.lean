/-! functions are entered and left; variables are bound on both sides -/
section FUNS
variable {S0 R0 : amS} {N : Nat} {tx : Nat → Nat} {a sz nc pd fc h nn nb dl : Nat} {cx : cxT} {P : List (Nat × Nat)} {S R : amS}
theorem opC_keep {r20 r20' : Nat → Int32} : ∀ {cx : cxT} {fc : Nat}, opC r20 fc cx → (∀ i, i < cx.length → r20' i = r20 i) → opC r20' fc cx
  | [], _, h, _ => h
  | [_], _, h, _ => h
  | f :: g :: c, fc, h, hk => ⟨(hk _ (by simp)).trans h.1, h.2.1, h.2.2.1, opC_keep h.2.2.2 (fun i hi => hk i (by simp at hi ⊢; omega))⟩
theorem tkI_17 {r7 r17 r17' r18 r19 : Nat → Int32} {mu x : Nat} {c : cxT} (h : tkI r7 r17 r18 r19 mu c) (hm : mu ≠ x) (hf : fnO c ≠ x) (h17 : ∀ k, k ≠ x → r17' k = r17 k) : tkI r7 r17' r18 r19 mu c := by
  obtain ⟨t, h1, h2, h3, h4⟩ := h
  refine ⟨t, h1, (h17 _ hm).trans h2, fun i hi => ?_, h4⟩
  obtain ⟨e, a1, a2, a3, a4, a5, a6⟩ := h3 i hi
  refine ⟨e, a1, a2, a3, a4, a5, ?_⟩
  rcases a6 with a6 | ⟨b1, b2, j, t', b3, b4, b5, b6, b7⟩
  · exact Or.inl a6
  · exact Or.inr ⟨b1, b2, j, t', b3, b4, (h17 _ hf).trans b5, b6, b7⟩
theorem TKI_17 {r7 r17 r17' r18 r19 : Nat → Int32} {x : Nat} (h17 : ∀ k, k ≠ x → r17' k = r17 k) : ∀ {cx : cxT}, TKI r7 r17 r18 r19 cx → (∀ f ∈ cx, f.1 ≠ x) → TKI r7 r17' r18 r19 cx
  | [], _, _ => trivial
  | [_], _, _ => trivial
  | f :: g :: c, h, hn => ⟨tkI_17 h.1 (hn f List.mem_cons_self) (hn g (List.mem_cons_of_mem _ List.mem_cons_self)) h17, TKI_17 h17 h.2 (fun e he => hn e (List.mem_cons_of_mem _ he))⟩
def enS (S : amS) (fc lv : Nat) (x y z : Int32) : amS := sI (sI (sI (sI (sI (sI (sI S 13 fc x) 15 fc y) 16 fc z) 17 fc 0) 12 9 (nI (lv + 1))) 20 (lv + 1) (nI fc)) 12 7 (nI (fc + 1))
theorem enter_c (hc : CR N tx a sz nc pd fc h cx S) (hfc : fc < 28) (hlv : cx.length ≤ 20) (x y z : Int32) : g_9 x y z S = some (.inl none, enS S fc (cx.length - 1) x y z) := by
  have e7 := hc.2.2.2.2.2.2.1
  have e9 := hc.2.2.2.2.2.2.2.1
  simp only [g_9, az_st]
  rw [e7, sR_in _ _ _ _ _ hfc (by decide)]
  have f1 : (sI S 13 fc x).1 12 7 = nI fc := e7
  rw [f1, sR_in _ _ _ _ _ hfc (by decide)]
  have f2 : (sI (sI S 13 fc x) 15 fc y).1 12 7 = nI fc := e7
  rw [f2, sR_in _ _ _ _ _ hfc (by decide)]
  have f3 : (sI (sI (sI S 13 fc x) 15 fc y) 16 fc z).1 12 7 = nI fc := e7
  rw [f3, sR_in _ _ _ _ _ hfc (by decide)]
  have f4 : (sI (sI (sI (sI S 13 fc x) 15 fc y) 16 fc z) 17 fc 0).1 12 9 = nI (cx.length - 1) := e9
  rw [f4, nI_1, sI_eq]
  have f5 : (sI (sI (sI (sI (sI S 13 fc x) 15 fc y) 16 fc z) 17 fc 0) 12 9 (nI (cx.length - 1 + 1))).1 12 7 = nI fc := e7
  rw [f5, sR_in _ _ _ _ _ (show cx.length - 1 + 1 < 21 by omega) (by decide)]
  have f6 : (sI (sI (sI (sI (sI (sI S 13 fc x) 15 fc y) 16 fc z) 17 fc 0) 12 9 (nI (cx.length - 1 + 1))) 20 (cx.length - 1 + 1) (nI fc)).1 12 7 = nI fc := e7
  rw [f6, nI_1]
  rfl
theorem CR_en (hc : CR N tx a sz nc pd fc h cx S) (hfc : fc < 28) (x y z : Int32) : CR N tx a sz nc pd (fc + 1) h ((fc, []) :: cx) (enS S fc (cx.length - 1) x y z) := by
  obtain ⟨h1, h2, h3, h4, h5, h6, h7, h8, h9, h10, h11, h12, h13⟩ := hc
  have hne : ∀ f ∈ cx, f.1 ≠ fc := fun f hf => by
    rcases opC_mem h11 f hf with h | h <;> omega
  cases cx with
  | nil => exact absurd h11 (fun h => h)
  | cons g c =>
    have r17 : ∀ k, k ≠ fc → (enS S fc ((g :: c).length - 1) x y z).1 17 k = S.1 17 k := fun k hk => by
      unfold enS
      rw [sI_na _ (by decide), sI_na _ (by decide), sI_na _ (by decide), sI_nk _ hk]
      rfl
    refine ⟨h1, h2, h3, h4, h5, h6, sI_eq _ _ _ _, ?_, h9, h10, ⟨?_, by omega, by omega, opC_keep h11 (fun i hi => ?_)⟩, ⟨fun e he => (by cases he), h12⟩, ⟨⟨0, by decide, ?_, fun i hi => absurd hi (by omega), fun i j hi => absurd hi (by omega)⟩, TKI_17 r17 h13 hne⟩⟩
    · show (enS S fc ((g :: c).length - 1) x y z).1 12 9 = nI (((fc, []) :: g :: c).length - 1)
      unfold enS
      rw [sI_nk _ (by decide), sI_na _ (by decide), sI_eq]
      rfl
    · show (enS S fc ((g :: c).length - 1) x y z).1 20 (c.length + 1) = nI fc
      unfold enS
      rw [sI_na _ (by decide)]
      exact sI_eq _ _ _ _
    · unfold enS
      rw [sI_na _ (by decide), sI_nk _ (by simp at hi ⊢; omega)]
      rfl
    · show (enS S fc ((g :: c).length - 1) x y z).1 17 fc = nI 0
      unfold enS
      rw [sI_na _ (by decide), sI_na _ (by decide), sI_na _ (by decide), sI_eq]
      rfl
theorem fC_en (x y z : Int32) (lv sz nc pd fc : Nat) (cx : cxT) : fC sz nc pd fc cx S (enS S fc lv x y z) := by
  have r13 : ∀ k, k < fc → (enS S fc lv x y z).1 13 k = S.1 13 k := fun k hk => by
    unfold enS
    rw [sI_na _ (by decide), sI_na _ (by decide), sI_na _ (by decide), sI_na _ (by decide), sI_na _ (by decide), sI_na _ (by decide), sI_nk _ (by omega)]
  have r15 : ∀ k, k < fc → (enS S fc lv x y z).1 15 k = S.1 15 k := fun k hk => by
    unfold enS
    rw [sI_na _ (by decide), sI_na _ (by decide), sI_na _ (by decide), sI_na _ (by decide), sI_na _ (by decide), sI_nk _ (by omega), sI_na _ (by decide)]
  have r16 : ∀ k, k < fc → (enS S fc lv x y z).1 16 k = S.1 16 k := fun k hk => by
    unfold enS
    rw [sI_na _ (by decide), sI_na _ (by decide), sI_na _ (by decide), sI_na _ (by decide), sI_nk _ (by omega), sI_na _ (by decide), sI_na _ (by decide)]
  have r17 : ∀ k, k < fc → (enS S fc lv x y z).1 17 k = S.1 17 k := fun k hk => by
    unfold enS
    rw [sI_na _ (by decide), sI_na _ (by decide), sI_na _ (by decide), sI_nk _ (by omega), sI_na _ (by decide), sI_na _ (by decide), sI_na _ (by decide)]
  exact ⟨fun _ _ => ⟨rfl, rfl, rfl⟩, fun k hk => ⟨r13 k hk, rfl, r15 k hk, r16 k hk⟩, fun k hk _ => ⟨r17 k hk, fun _ _ => ⟨rfl, rfl⟩⟩, fun _ _ => ⟨rfl, rfl, rfl, fun h => h⟩, fun k t hk ht h9 => ⟨t, Nat.le_refl _, ht, (r17 k hk).trans h9, fun _ _ => ⟨rfl, rfl⟩⟩, fun _ _ => rfl⟩
theorem en_F (x y z : Int32) (fc lv : Nat) : (enS S fc lv x y z).1 13 fc = x ∧ (enS S fc lv x y z).1 15 fc = y ∧ (enS S fc lv x y z).1 16 fc = z := by
  unfold enS
  refine ⟨?_, ?_, ?_⟩ <;> simp [sI_get]
theorem pfC_en (hp : pfC S0 S) (x y z : Int32) (fc lv : Nat) : pfC S0 (enS S fc lv x y z) := by
  unfold enS
  refine pfC_w (pfC_w (pfC_w (pfC_w (pfC_w (pfC_w (pfC_w hp ?_ ?_ _) ?_ ?_ _) ?_ ?_ _) ?_ ?_ _) ?_ ?_ _) ?_ ?_ _) ?_ ?_ _ <;> first | decide | omega
/-- a function is left: its variables, its end, the height outside -/
def lvS (S : amS) (mu sz ic lv h : Nat) : amS := sI (sI (sI (sI S 5 6 (nI ic)) 14 mu (nI sz)) 12 9 (nI lv)) 23 4 (nI h)
theorem leave_c {mu hh : Nat} {vs : List scE} (hc : CR N tx a sz nc pd fc h ((mu, vs) :: cx) S) (hcx : cx ≠ []) (hlv : cx.length ≤ 20) : (az_bV (g_59 (nI vs.length) S) fun S13 => az_bV (g_10 (S13.1 1 3) S13) fun S14 => az_st (sI S14 23 4 (nI hh + 1)) fun S15 => some (.inl none, S15)) = some (.inl none, lvS S mu sz (scO cx).length (cx.length - 1) (hh + 1)) := by
  obtain ⟨h1, h2, h3, h4, h5, h6, h7, h8, h9, h10, h11, h12, h13⟩ := hc
  obtain ⟨w1, w2, w3⟩ := opC_cut [] (show opC (S.1 20) fc ([] ++ (mu, vs) :: cx) from h11) hcx
  have hl : (scO ((mu, vs) :: cx)).length = vs.length + (scO cx).length := by
    show (vs ++ scO cx).length = _
    rw [List.length_append]
  have hcl : 0 < cx.length := List.length_pos_iff.mpr hcx
  simp only [g_59, az_st]
  rw [bV_v, h5, hl, pk_sub (by omega), Nat.add_sub_cancel_left]
  simp only [g_10, az_st]
  have f1 : (sI S 5 6 (nI (scO cx).length)).1 12 9 = nI cx.length := h8
  have f2 : (sI S 5 6 (nI (scO cx).length)).1 1 3 = nI sz := h3
  have f3 : (sI S 5 6 (nI (scO cx).length)).1 20 cx.length = nI mu := w1
  rw [f1, f2, az_rg_in _ _ _ (show cx.length < 21 by omega) (by decide), f3, sR_in _ _ _ _ _ w2 (by decide), bV_v]
  have f4 : (sI (sI S 5 6 (nI (scO cx).length)) 14 mu (nI sz)).1 12 9 = nI cx.length := h8
  rw [f4, show (1 : Int32) = nI 1 from rfl, pk_sub (by omega), nI_add]
  rfl
theorem CR_lv {mu hh : Nat} {vs : List scE} (hc : CR N tx a sz nc pd fc h ((mu, vs) :: cx) S) (hcx : cx ≠ []) (hfc : fc ≤ 28) : CR N tx a sz nc pd fc hh cx (lvS S mu sz (scO cx).length (cx.length - 1) hh) := by
  obtain ⟨h1, h2, h3, h4, h5, h6, h7, h8, h9, h10, h11, h12, h13⟩ := hc
  cases cx with
  | nil => exact absurd rfl hcx
  | cons g c => exact ⟨h1, h2, h3, h4, sI_eq S 5 6 (nI (scO (g :: c)).length), h6, h7, sI_eq (sI (sI S 5 6 (nI (scO (g :: c)).length)) 14 mu (nI sz)) 12 9 (nI ((g :: c).length - 1)), sI_eq _ _ _ _, scC_drop h10, opC_le h11.2.2.2 (Nat.le_of_lt h11.2.1) hfc, h12.2, h13.2⟩
theorem fC_lv {mu : Nat} (x y z h nc pd : Nat) {sz fc : Nat} {cx : cxT} (hm : fc ≤ mu) : fC sz nc pd fc cx S (lvS S mu x y z h) :=
  ⟨fun _ _ => ⟨rfl, rfl, rfl⟩, fun k hk => ⟨rfl, by unfold lvS; rw [sI_na _ (by decide), sI_na _ (by decide), sI_nk _ (by omega)]; rfl, rfl, rfl⟩, fun _ _ _ => ⟨rfl, fun _ _ => ⟨rfl, rfl⟩⟩, fun _ _ => ⟨rfl, rfl, rfl, fun h => h⟩, mxN_refl _ _ _ _, fun _ _ => rfl⟩
theorem pfC_lv (hp : pfC S0 S) (mu x y z h : Nat) : pfC S0 (lvS S mu x y z h) := by
  unfold lvS
  refine pfC_w (pfC_w (pfC_w (pfC_w hp ?_ ?_ _) ?_ ?_ _) ?_ ?_ _) ?_ ?_ _ <;> first | decide | omega
/-- pairs of new variables -/
def prP (nc : Nat) (rv : List Nat) : Nat → List (Nat × Nat)
  | 0 => []
  | i + 1 => (nc + i, rv.getD i 0) :: prP nc rv i
theorem prP_mem {nc : Nat} {rv : List Nat} : ∀ {i : Nat} {x : Nat × Nat}, x ∈ prP nc rv i ↔ ∃ j, j < i ∧ x = (nc + j, rv.getD j 0)
  | 0, x => ⟨fun h => (by cases h), fun ⟨j, h, _⟩ => absurd h (by omega)⟩
  | i + 1, x => by
    constructor
    · intro h
      rcases List.mem_cons.mp h with rfl | h
      · exact ⟨i, by omega, rfl⟩
      · obtain ⟨j, h1, h2⟩ := prP_mem.mp h
        exact ⟨j, by omega, h2⟩
    · rintro ⟨j, h1, h2⟩
      by_cases hj : j = i
      · subst hj; rw [h2]; exact List.mem_cons_self
      · exact List.mem_cons_of_mem _ (prP_mem.mpr ⟨j, by omega, h2⟩)
/-- what is told of new variables -/
def newR (R : amS) (P : List (Nat × Nat)) (lo nb : Nat) (rv : List Nat) : Prop := (∀ i, i < rv.length → lo ≤ rv.getD i 0 ∧ rv.getD i 0 < nb ∧ R.1 46 (rv.getD i 0) = 0 ∧ ∀ x ∈ P, x.2 ≠ rv.getD i 0) ∧ ∀ i j, i < j → j < rv.length → rv.getD i 0 < rv.getD j 0
theorem sd_mkV {ls rv : List Nat} {fn lo : Nat} {sc : List scE} (hr : ∀ i, i < rv.length → lo ≤ rv.getD i 0) (hi : ∀ i j, i < j → j < rv.length → rv.getD i 0 < rv.getD j 0) (hs : sdS nc lo sc) : ∀ (i u v : Nat), i ≤ rv.length → nc + i ≤ u → (∀ j, j < i → rv.getD j 0 < v) → lo ≤ v → sdS u v (mkV ls rv nc fn i ++ sc)
  | 0, u, v, _, h1, _, h3 => sdS_le hs (by omega) h3
  | i + 1, u, v, h0, h1, h2, h3 => ⟨show nc + i < u by omega, h2 i (by omega), sd_mkV hr hi hs i (nc + i) (rv.getD i 0) (by omega) (Nat.le_refl _) (fun j hj => hi j i hj (by omega)) (hr i (by omega))⟩
theorem JP_bind {S' R' : amS} {ls rv : List Nat} {fn lo : Nat} {sc : List scE} (h : JP P nc nb sc S R) (hl : rv.length = ls.length) (hn : newR R P lo nb rv) (hs : sdS nc lo sc) (h9 : ∀ k, S'.1 9 k = if nc ≤ k ∧ k < nc + ls.length then 0 else S.1 9 k) (h46 : R'.1 46 = R.1 46) (hlo : lo ≤ nb) (hnc : nc + ls.length ≤ 1000) : JP (prP nc rv ls.length ++ P) (nc + ls.length) nb (mkV ls rv nc fn ls.length ++ sc) S' R' := by
  obtain ⟨j1, j2, j3, j4, j5⟩ := h
  obtain ⟨n1, n2⟩ := hn
  refine ⟨fun x hx hlt => ?_, fun x hx y hy => ?_, fun x hx => ?_, fun e he => ?_, sd_mkV (fun i hi => (n1 i hi).1) n2 hs ls.length _ _ (by omega) (Nat.le_refl _) (fun j hj => (n1 j (by omega)).2.1) hlo⟩
  · rw [h9, h46]
    rcases List.mem_append.mp hx with hx | hx
    · obtain ⟨j, hj, rfl⟩ := prP_mem.mp hx
      rw [if_pos (show nc ≤ nc + j ∧ nc + j < nc + ls.length by omega)]
      exact ⟨(n1 j (by omega)).2.2.1.symm, Or.inl rfl⟩
    · rw [if_neg (by have := (j3 x hx).1; omega)]
      exact j1 x hx hlt
  · rcases List.mem_append.mp hx with hx | hx
    · obtain ⟨i, hi, rfl⟩ := prP_mem.mp hx
      rcases List.mem_append.mp hy with hy | hy
      · obtain ⟨j, hj, rfl⟩ := prP_mem.mp hy
        show (nc + i) % 1000 = (nc + j) % 1000 ↔ rv.getD i 0 = rv.getD j 0
        constructor
        · intro h; rw [show i = j by omega]
        · intro h
          rcases Nat.lt_trichotomy i j with h8 | h8 | h8
          · have := n2 i j h8 (by omega); omega
          · rw [h8]
          · have := n2 j i h8 (by omega); omega
      · show (nc + i) % 1000 = y.1 % 1000 ↔ rv.getD i 0 = y.2
        have := (j3 y hy).1
        exact ⟨fun h => by omega, fun h => absurd h.symm ((n1 i (by omega)).2.2.2 y hy)⟩
    · rcases List.mem_append.mp hy with hy | hy
      · obtain ⟨j, hj, rfl⟩ := prP_mem.mp hy
        show x.1 % 1000 = (nc + j) % 1000 ↔ x.2 = rv.getD j 0
        have := (j3 x hx).1
        exact ⟨fun h => by omega, fun h => absurd h ((n1 j (by omega)).2.2.2 x hx)⟩
      · exact j2 x hx y hy
  · rcases List.mem_append.mp hx with hx | hx
    · obtain ⟨j, hj, rfl⟩ := prP_mem.mp hx
      exact ⟨show (nc + j) % 1000 < nc + ls.length by omega, (n1 j (by omega)).2.1⟩
    · have := j3 x hx
      exact ⟨by omega, this.2⟩
  · rcases List.mem_append.mp he with he | he
    · obtain ⟨j, hj, rfl⟩ := mkV_mem he
      exact Or.inl (List.mem_append_left _ (prP_mem.mpr ⟨j, hj, rfl⟩))
    · exact (j4 e he).imp (List.mem_append_right _) (List.mem_append_right _)
theorem PE_bind {rv : List Nat} {n lo : Nat} (h : ∀ i, i < n → lo ≤ rv.getD i 0) : PE P (prP nc rv n ++ P) nc lo :=
  ⟨fun x hx => List.mem_append_right _ hx, fun x hx => by
    rcases List.mem_append.mp hx with hx | hx
    · obtain ⟨j, hj, rfl⟩ := prP_mem.mp hx
      exact Or.inr ⟨Nat.le_add_right _ _, h j hj⟩
    · exact Or.inl hx⟩
/-- what TT wants of variables bound side by side -/
theorem bnd_mk {S R : amS} {ls rv : List Nat} {m c0 s0 fn : Nat} (h43 : ∀ i, i < ls.length → R.1 43 (4 * m + i) = nI (rv.getD i 0)) (h7 : ∀ i, i < ls.length → S.1 7 (c0 + i) = nI (s0 + i)) (hj : KJ (prP c0 rv ls.length) S R) (hc : c0 + ls.length ≤ 250) (hr : ∀ i, i < ls.length → rv.getD i 0 < 256) : ∀ i, i ≤ ls.length → bnd S R m c0 s0 fn (mkV ls rv c0 fn i)
  | 0, _ => trivial
  | i + 1, hi => by
    have hl := mkV_len ls rv c0 fn i
    have hx := hj (c0 + i, rv.getD i 0) (prP_mem.mpr ⟨i, by omega, rfl⟩) (show c0 + i < 1000 by omega)
    refine ⟨?_, rfl, ?_, ?_, hx.1, hx.2, show c0 + i < 250 by omega, hr i (by omega), bnd_mk h43 h7 hj hc hr i (by omega)⟩
    · show c0 + i = c0 + (mkV ls rv c0 fn i).length
      rw [hl]
    · rw [hl]; exact h43 i (by omega)
    · show S.1 7 (c0 + i) = nI (s0 + (mkV ls rv c0 fn i).length)
      rw [hl]; exact h7 i (by omega)
end FUNS
