/-! the class while it reads -/
def CR (N : Nat) (tx : Nat → Nat) (a sz nc pd fc h : Nat) (cx : cxT) (S : amS) : Prop :=
  txC S N tx ∧ (S.1 21 3 = nI a ∧ a ≤ N) ∧ S.1 1 3 = nI sz ∧ S.1 5 4 = nI nc ∧ S.1 5 6 = nI (scO cx).length ∧ S.1 5 8 = nI pd ∧ S.1 12 7 = nI fc ∧ S.1 12 9 = nI (cx.length - 1) ∧ S.1 23 4 = nI h ∧
  scC (S.1 6) (S.1 10) (scO cx) ∧ opC (S.1 20) fc cx ∧ lvC (S.1 8) cx ∧ TKI (S.1 7) (S.1 17) (S.1 18) (S.1 19) cx
section CREL
variable {N : Nat} {tx : Nat → Nat} {a sz nc pd fc h : Nat} {cx : cxT} {S : amS}
def addS (S : amS) (sz : Nat) (o x p : Int32) : amS := sI (sI (sI (sI S 2 sz o) 3 sz x) 4 sz p) 1 3 (nI (sz + 1))
theorem add_c (hc : CR N tx a sz nc pd fc h cx S) (hs : sz < 502) (o x p : Int32) : g_2 o x p S = some (.inl (some (.int (nI sz))), addS S sz o x p) := by
  simp only [g_2, az_st]
  rw [hc.2.2.1, sR_in _ _ _ _ _ hs (by decide), sR_in _ _ _ _ _ hs (by decide), sR_in _ _ _ _ _ hs (by decide)]
  have e : (sI (sI (sI S 2 sz o) 3 sz x) 4 sz p).1 1 3 = nI sz := hc.2.2.1
  rw [e, nI_1]
  rfl
theorem CR_add (hc : CR N tx a sz nc pd fc h cx S) (o x p : Int32) : CR N tx a (sz + 1) nc pd fc h cx (addS S sz o x p) := by
  obtain ⟨h1, h2, h3, h4, h5, h6, h7, h8, h9, h10, h11, h12, h13⟩ := hc
  exact ⟨h1, h2, sI_eq _ _ _ _, h4, h5, h6, h7, h8, h9, h10, h11, h12, h13⟩
theorem fC_add (o x p : Int32) (nc pd fc : Nat) (cx : cxT) : fC sz nc pd fc cx S (addS S sz o x p) := by
  refine ⟨fun i hi => ⟨?_, ?_, ?_⟩, fun _ _ => ⟨rfl, rfl, rfl, rfl⟩, fun _ _ _ => ⟨rfl, fun _ _ => ⟨rfl, rfl⟩⟩, fun _ _ => ⟨rfl, rfl, rfl, fun h => h⟩, mxN_refl _ _ _ _, fun _ _ => rfl⟩
  · show (sI (sI (sI (sI S 2 sz o) 3 sz x) 4 sz p) 1 3 (nI (sz + 1))).1 2 i = _
    rw [sI_na _ (by decide), sI_na _ (by decide), sI_na _ (by decide), sI_nk _ (by omega)]
  · show (sI (sI (sI (sI S 2 sz o) 3 sz x) 4 sz p) 1 3 (nI (sz + 1))).1 3 i = _
    rw [sI_na _ (by decide), sI_na _ (by decide), sI_nk _ (by omega), sI_na _ (by decide)]
  · show (sI (sI (sI (sI S 2 sz o) 3 sz x) 4 sz p) 1 3 (nI (sz + 1))).1 4 i = _
    rw [sI_na _ (by decide), sI_nk _ (by omega), sI_na _ (by decide), sI_na _ (by decide)]
theorem cd_add (o x p : Int32) : cd (addS S sz o x p) sz o x p := by
  refine ⟨?_, ?_, ?_⟩
  · show (sI (sI (sI (sI S 2 sz o) 3 sz x) 4 sz p) 1 3 (nI (sz + 1))).1 2 sz = _
    rw [sI_na _ (by decide), sI_na _ (by decide), sI_na _ (by decide), sI_eq]
  · show (sI (sI (sI (sI S 2 sz o) 3 sz x) 4 sz p) 1 3 (nI (sz + 1))).1 3 sz = _
    rw [sI_na _ (by decide), sI_na _ (by decide), sI_eq]
  · show (sI (sI (sI (sI S 2 sz o) 3 sz x) 4 sz p) 1 3 (nI (sz + 1))).1 4 sz = _
    rw [sI_na _ (by decide), sI_eq]
theorem cd_ag {S' : amS} {i : Nat} {o x p : Int32} (hc : cd S i o x p) (hk : agC S S' i) : cd S' i o x p := ⟨hk.1.trans hc.1, hk.2.1.trans hc.2.1, hk.2.2.trans hc.2.2⟩
theorem pfC_add {S0 : amS} (hp : pfC S0 S) (o x p : Int32) : pfC S0 (addS S sz o x p) :=
  pfC_w (pfC_w (pfC_w (pfC_w hp (by decide) (by omega) _) (by decide) (by omega) _) (by decide) (by omega) _) (by decide) (by omega) _
theorem CR_h (hc : CR N tx a sz nc pd fc h cx S) (h' : Nat) : CR N tx a sz nc pd fc h' cx (sI S 23 4 (nI h')) := by
  obtain ⟨h1, h2, h3, h4, h5, h6, h7, h8, h9, h10, h11, h12, h13⟩ := hc
  exact ⟨h1, h2, h3, h4, h5, h6, h7, h8, sI_eq _ _ _ _, h10, h11, h12, h13⟩
theorem fC_h (x : Int32) (sz nc pd fc : Nat) (cx : cxT) : fC sz nc pd fc cx S (sI S 23 4 x) := fC_refl sz nc pd fc cx S
theorem CR_at (hc : CR N tx a sz nc pd fc h cx S) {a' : Nat} (ha : a' ≤ N) : CR N tx a' sz nc pd fc h cx (sI S 21 3 (nI a')) := by
  obtain ⟨h1, h2, h3, h4, h5, h6, h7, h8, h9, h10, h11, h12, h13⟩ := hc
  exact ⟨txC_at h1 _, ⟨sI_eq _ _ _ _, ha⟩, h3, h4, h5, h6, h7, h8, h9, h10, h11, h12, h13⟩
theorem fC_at (x : Int32) (sz nc pd fc : Nat) (cx : cxT) : fC sz nc pd fc cx S (sI S 21 3 x) := fC_refl sz nc pd fc cx S
theorem pfC_at {S0 : amS} (hp : pfC S0 S) (x : Int32) : pfC S0 (sI S 21 3 x) := pfC_w hp (by decide) (by omega) _
theorem pfC_h {S0 : amS} (hp : pfC S0 S) (x : Int32) : pfC S0 (sI S 23 4 x) := pfC_w hp (by decide) (by omega) _
theorem skip_r (hc : CR N tx a sz nc pd fc h cx S) : G_103 S = some (.inl (some (.int (nI (sk N tx a)))), sI S 21 3 (nI (sk N tx a))) := skip_c (N - a) S a hc.1 hc.2.1.1 (by have := hc.1.1; have := hc.2.1.2; omega) (Nat.le_refl _)
theorem next_r (hc : CR N tx a sz nc pd fc h cx S) : G_104 S = some (.inl (some (.int (tb N tx (sk N tx a)))), sI S 21 3 (nI (sk N tx a))) := next_c hc.1 hc.2.1.1 hc.2.1.2
theorem CR_sk (hc : CR N tx a sz nc pd fc h cx S) : CR N tx (sk N tx a) sz nc pd fc h cx (sI S 21 3 (nI (sk N tx a))) := CR_at hc (sk_le hc.2.1.2)
/-- an order and a value more -/
theorem val_c (hc : CR N tx a sz nc pd fc h cx S) (hs : sz < 502) (hh : h < 1000) (o x p : Int32) : g_74 o x p S = some (.inl none, sI (addS S sz o x p) 23 4 (nI (h + 1))) := by
  unfold g_74
  rw [add_c hc hs, bI_i]
  simp only [az_st]
  rw [show (addS S sz o x p).1 23 4 = nI h from hc.2.2.2.2.2.2.2.2.1, nI_1]
theorem forget_c (hc : CR N tx a sz nc pd fc (h + 1) cx S) (hs : sz < 502) (hh : h < 1000) : g_83 S = some (.inl none, sI (addS S sz 8 0 (-1)) 23 4 (nI h)) := by
  unfold g_83
  rw [add_c hc hs, bI_i]
  simp only [az_st]
  rw [show (addS S sz 8 0 (-1)).1 23 4 = nI (h + 1) from hc.2.2.2.2.2.2.2.2.1, show (1 : Int32) = nI 1 from rfl, pk_sub (by omega), Nat.add_sub_cancel]
/-- scopes of a context -/
theorem scC_drop {r6 r10 : Nat → Int32} : ∀ {vs sc : List scE}, scC r6 r10 (vs ++ sc) → scC r6 r10 sc
  | [], _, h => h
  | _ :: _, _, h => scC_drop h.2.2.2.2
theorem scM_drop {r50 r51 : Nat → Int32} : ∀ {vs sc : List scE}, scM r50 r51 (vs ++ sc) → scM r50 r51 sc
  | [], _, h => h
  | _ :: _, _, h => scM_drop h.2.2.2.2
theorem opC_mem {r20 : Nat → Int32} : ∀ {cx : cxT} {fc : Nat}, opC r20 fc cx → ∀ f ∈ cx, f.1 < fc ∨ f.1 = 1000
  | [], _, h => absurd h (fun h => h)
  | [g], _, h => fun f hf => by
    rcases List.mem_cons.mp hf with rfl | hf
    · exact Or.inr h
    · cases hf
  | g :: g2 :: c, fc, h => fun f hf => by
    rcases List.mem_cons.mp hf with rfl | hf
    · exact Or.inl h.2.1
    · rcases opC_mem h.2.2.2 f hf with h9 | h9
      · have := h.2.1
        exact Or.inl (by omega)
      · exact Or.inr h9
theorem opC_le {r20 : Nat → Int32} : ∀ {cx : cxT} {fc fc' : Nat}, opC r20 fc cx → fc ≤ fc' → fc' ≤ 28 → opC r20 fc' cx
  | [], _, _, h, _, _ => h
  | [_], _, _, h, _, _ => h
  | _ :: _ :: _, _, _, h, h1, h2 => ⟨h.1, Nat.lt_of_lt_of_le h.2.1 h1, h2, h.2.2.2⟩
theorem opC_cut {r20 : Nat → Int32} : ∀ (pre : cxT) {f : Nat × List scE} {c : cxT} {fc : Nat}, opC r20 fc (pre ++ f :: c) → c ≠ [] → r20 c.length = nI f.1 ∧ f.1 < 28 ∧ opC r20 f.1 c
  | [], f, [], fc, _, hn => absurd rfl hn
  | [], f, g :: c, fc, h, _ => ⟨h.1, by have := h.2.1; have := h.2.2.1; omega, h.2.2.2⟩
  | [p], f, c, fc, h, hn => opC_cut [] (show opC r20 p.1 ([] ++ f :: c) from h.2.2.2) hn
  | p :: p2 :: pre, f, c, fc, h, hn => opC_cut (p2 :: pre) (show opC r20 p.1 (p2 :: pre ++ f :: c) from h.2.2.2) hn
theorem opC_fc {r20 : Nat → Int32} : ∀ {cx : cxT} {fc : Nat}, opC r20 fc cx → fnO cx < 28 → fnO cx < fc
  | [], _, h, _ => absurd h (fun h => h)
  | [g], _, h, h2 => absurd h2 (by rw [show fnO [g] = g.1 from rfl, h]; omega)
  | g :: _ :: _, _, h, _ => h.2.1
theorem lvC_drop {r8 : Nat → Int32} : ∀ (pre : cxT) {c : cxT}, lvC r8 (pre ++ c) → lvC r8 c
  | [], _, h => h
  | _ :: pre, _, h => lvC_drop pre h.2
theorem TKI_tail {r7 r17 r18 r19 : Nat → Int32} {f : Nat × List scE} {c : cxT} (h : TKI r7 r17 r18 r19 (f :: c)) : TKI r7 r17 r18 r19 c := by
  cases c with
  | nil => trivial
  | cons g c => exact h.2
theorem TKI_cut {r7 r17 r18 r19 : Nat → Int32} : ∀ (pre : cxT) {f : Nat × List scE} {c : cxT}, TKI r7 r17 r18 r19 (pre ++ f :: c) → c ≠ [] → tkI r7 r17 r18 r19 f.1 c
  | [], f, [], _, hn => absurd rfl hn
  | [], f, g :: c, h, _ => h.1
  | [p], f, c, h, hn => TKI_cut [] (show TKI r7 r17 r18 r19 ([] ++ f :: c) from h.2) hn
  | p :: p2 :: pre, f, c, h, hn => TKI_cut (p2 :: pre) (show TKI r7 r17 r18 r19 (p2 :: pre ++ f :: c) from h.2) hn
/-- tables that grow keep the invariant of other functions -/
theorem tkI_keep {r7 r17 r18 r19 r17' r18' r19' : Nat → Int32} {mu : Nat} {c : cxT} (h : tkI r7 r17 r18 r19 mu c) (hm : mxR r17 r18 r19 r17' r18' r19') (hs : r17' mu = r17 mu ∧ ∀ i, i < 26 → r18' (26 * mu + i) = r18 (26 * mu + i) ∧ r19' (26 * mu + i) = r19 (26 * mu + i)) : tkI r7 r17' r18' r19' mu c := by
  obtain ⟨t, h1, h2, h3, h4⟩ := h
  refine ⟨t, h1, hs.1.trans h2, fun i hi => ?_, fun i j hi hj h9 => h4 i j hi hj (((hs.2 i (by omega)).1.symm.trans h9).trans (hs.2 j (by omega)).1)⟩
  obtain ⟨e, a1, a2, a3, a4, a5, a6⟩ := h3 i hi
  exact ⟨e, a1, a2, a3, a4, (hs.2 i (by omega)).1.trans a5, by rw [(hs.2 i (by omega)).2]; exact LoR_mono hm a6⟩
theorem TKI_upd {r7 r17 r18 r19 r17' r18' r19' r20 : Nat → Int32} {mu : Nat} (hm : mxR r17 r18 r19 r17' r18' r19') (hs : ∀ x, x ≠ mu → r17' x = r17 x ∧ ∀ i, i < 26 → r18' (26 * x + i) = r18 (26 * x + i) ∧ r19' (26 * x + i) = r19 (26 * x + i)) : ∀ (cx : cxT), TKI r7 r17 r18 r19 cx → (∀ pre f c, cx = pre ++ f :: c → c ≠ [] → f.1 = mu → tkI r7 r17' r18' r19' mu c) → TKI r7 r17' r18' r19' cx
  | [], _, _ => trivial
  | [_], _, _ => trivial
  | f :: g :: c, h, hx => by
    refine ⟨?_, TKI_upd hm hs (r20 := r20) (g :: c) h.2 (fun pre f' c' he hn hf => hx (f :: pre) f' c' (by rw [he]; rfl) hn hf)⟩
    by_cases hf : f.1 = mu
    · rw [hf]; exact hx [] f (g :: c) rfl (by simp) hf
    · exact tkI_keep h.1 hm (hs f.1 hf)
end CREL
