/-! the state of a run -/
section RSTATE
variable {Sp Rp T U S R S' R' : amS} {cw : Nat → Int64} {tw : Nat → Nat → Int64} {pm fm fmu : Nat → Nat} {np nf : Nat} {own : Nat → Nat × Nat} {fks : Nat → List Nat} {md tc bg tot wt m st : Nat} {A : Nat → Prop}
/-- program and tape stay -/
def FX (Sp Rp T U S R : amS) : Prop := (∀ a, a ≤ 20 → S.1 a = Sp.1 a) ∧ (S.1 21 = T.1 21 ∧ S.1 22 = T.1 22) ∧ (∀ a, 36 ≤ a → a ≤ 46 → R.1 a = Rp.1 a) ∧ R.1 35 = U.1 35 ∧ R.1 34 0 = U.1 34 0 ∧ R.1 34 2 = U.1 34 2
/-- a function: its lambda mu, node m, link lk with the chain ks, what it took along -/
def LAM (Sp Rp : amS) (r56 r58 : Nat → Int32) (cw twj : Nat → Int64) (m mu : Nat) (lk : Int32) (ks : List Nat) : Prop :=
  ∃ f dl pe q1 c0 vs sc, m < 256 ∧ Sp.1 13 mu = nI pe ∧ Sp.1 15 mu = nI vs.length ∧ Rp.1 44 m = nI vs.length ∧ vs.length ≤ 4 ∧ Sp.1 16 mu = nI c0 ∧ bnd Sp Rp m c0 0 mu vs ∧ TT Sp Rp true f 1 (Rp.1 39 m) (Rp.1 40 m) dl pe q1 vs.length mu (vs ++ sc) true ∧ cd Sp q1 16 0 (-1) ∧ (∀ e ∈ sc, e.2.2.2 ≠ mu) ∧ scl r56 sc ks ∧ chn r58 lk ks ∧
  ∀ p ∈ sc.zip ks, (∀ i t, i < t → t ≤ 26 → Sp.1 17 mu = nI t → Sp.1 18 (26 * mu + i) = nI p.1.2.1 → twj i = cw p.2) ∧ (Sp.1 9 p.1.2.1 = 1 → ∃ x, x < 2000 ∧ cw p.2 = vE 4 x)
/-- both heaps: pairs, functions, links in A -/
def GJ (Sp Rp T U S R : amS) (cw : Nat → Int64) (tw : Nat → Nat → Int64) (pm fm fmu : Nat → Nat) (np nf : Nat) (own : Nat → Nat × Nat) (fks : Nat → List Nat) (md tc : Nat) (A : Nat → Prop) : Prop :=
  FX Sp Rp T U S R ∧
  (S.1 25 3 = nI md ∧ md ≤ 2000 ∧ R.1 34 36 = nI np ∧ R.1 34 39 = nI nf ∧ np + nf ≤ md ∧ S.1 25 4 = nI tc ∧ tc ≤ 26 * nf) ∧
  (∀ i, i < np → pm i < md ∧ own (pm i) = (2, i) ∧ vR pm fm np nf (R.2 52 i) (S.2 26 (pm i)) ∧ vR pm fm np nf (R.2 53 i) (S.2 27 (pm i))) ∧
  (FNC Sp S tw fm fmu nf tc ∧ ∀ j, j < nf → fm j < md ∧ own (fm j) = (3, j) ∧ (∃ m, R.1 54 j = nI m ∧ LAM Sp Rp (R.1 56) (R.1 58) cw (tw j) m (fmu j) (R.1 55 j) (fks j)) ∧ ∀ k ∈ fks j, A k) ∧
  (∀ k, A k → (∃ x, x < md ∧ cw k = vE 4 x ∧ own x = (4, k) ∧ vR pm fm np nf (R.2 57 k) (S.2 26 x)) ∨ vR pm fm np nf (R.2 57 k) (cw k)) ∧
  frL R A
def cQ (S S' : amS) : Prop := (∀ a, a ≤ 22 ∨ a = 25 → S'.1 a = S.1 a) ∧ (∀ a, a ≠ 31 → S'.2 a = S.2 a)
def mQ (R R' : amS) : Prop := (∀ a, 35 ≤ a → a ≤ 58 → R'.1 a = R.1 a) ∧ (∀ k, k ≤ 5 ∨ k = 36 ∨ k = 39 ∨ k = 44 → R'.1 34 k = R.1 34 k) ∧ (∀ a, a ≠ 34 → a ≠ 64 → R'.2 a = R.2 a)
theorem GI_keep (h : GJ Sp Rp T U S R cw tw pm fm fmu np nf own fks md tc A) (hS : cQ S S') (hR : mQ R R') : GJ Sp Rp T U S' R' cw tw pm fm fmu np nf own fks md tc A := by
  obtain ⟨h1, h2, h3, h4, h5, h6⟩ := h
  obtain ⟨s1, s2⟩ := hS
  obtain ⟨r1, r2, r3⟩ := hR
  have e25 := s1 25 (Or.inr rfl)
  have e26 := s2 26 (by decide)
  have e27 := s2 27 (by decide)
  have e28 := s2 28 (by decide)
  refine ⟨⟨fun a ha => (s1 a (Or.inl (by omega))).trans (h1.1 a ha), ⟨(s1 21 (by omega)).trans h1.2.1.1, (s1 22 (by omega)).trans h1.2.1.2⟩, fun a ha hb => (r1 a (by omega) (by omega)).trans (h1.2.2.1 a ha hb), (r1 35 (by omega) (by omega)).trans h1.2.2.2.1, (r2 0 (by omega)).trans h1.2.2.2.2.1, (r2 2 (by omega)).trans h1.2.2.2.2.2⟩, ?_, ?_, ?_, ?_, ?_⟩
  · rw [e25, r2 36 (by omega), r2 39 (by omega)]; exact h2
  · rw [e26, e27, r3 52 (by decide) (by decide), r3 53 (by decide) (by decide)]; exact h3
  · unfold FNC
    rw [e26, e27, e28, r1 54 (by decide) (by decide), r1 55 (by decide) (by decide), r1 56 (by decide) (by decide), r1 58 (by decide) (by decide)]; exact h4
  · rw [e26, r3 57 (by decide) (by decide)]; exact h5
  · unfold frL
    rw [r1 58 (by decide) (by decide), r2 44 (by omega)]; exact h6
/-- counters and output -/
def OU (S R : amS) (bg tot : Nat) : Prop := S.1 24 12 = nI bg ∧ R.1 34 30 = nI bg ∧ S.1 24 14 = R.1 34 6 ∧ S.1 29 1 = nI tot ∧ R.1 34 55 = nI tot ∧ ∀ j, j < 200 → j < tot → S.1 30 j = R.1 65 j
/-- the class: registers, frames and stack may change -/
def cG (S S' : amS) : Prop := (∀ a, a ≠ 24 → a ≠ 32 → a ≠ 33 → S'.1 a = S.1 a) ∧ (∀ k, k ≠ 8 → k ≠ 9 → k ≠ 10 → k ≠ 11 → S'.1 24 k = S.1 24 k) ∧ (∀ a, a ≠ 31 → S'.2 a = S.2 a)
/-- the reference: registers, what waits, values held may change -/
def mF (R R' : amS) : Prop := (∀ a, a ≠ 34 → (a < 60 ∨ 63 < a) → R'.1 a = R.1 a) ∧ (∀ k, k ≠ 32 → k ≠ 49 → k ≠ 51 → k ≠ 52 → k ≠ 53 → R'.1 34 k = R.1 34 k) ∧ (∀ a, a ≠ 34 → a ≠ 64 → R'.2 a = R.2 a)
theorem cG_F (h : cF S S') : cG S S' := ⟨fun a h1 _ _ => h.1 a h1, h.2.1, h.2.2⟩
theorem cQ_G (h : cG S S') : cQ S S' := ⟨fun a ha => h.1 a (by omega) (by omega) (by omega), h.2.2⟩
theorem mQ_F (h : mF R R') : mQ R R' := ⟨fun a h1 h2 => h.1 a (by omega) (by omega), fun k hk => h.2.1 k (by omega) (by omega) (by omega) (by omega) (by omega), h.2.2⟩
theorem mF_refl : mF R R := ⟨fun _ _ _ => rfl, fun _ _ _ _ _ _ => rfl, fun _ _ _ => rfl⟩
theorem mF_trans {R2 : amS} (h : mF R R') (h' : mF R' R2) : mF R R2 := ⟨fun a h1 h2 => (h'.1 a h1 h2).trans (h.1 a h1 h2), fun k h1 h2 h3 h4 h5 => (h'.2.1 k h1 h2 h3 h4 h5).trans (h.2.1 k h1 h2 h3 h4 h5), fun a h1 h2 => (h'.2.2 a h1 h2).trans (h.2.2 a h1 h2)⟩
theorem mF_I {k : Nat} {v : Int32} (h : mF R R') (hk : k = 32 ∨ k = 49 ∨ k = 51 ∨ k = 52 ∨ k = 53) : mF R (sI R' 34 k v) := mF_trans h ⟨fun a h1 _ => by rw [sI_row, if_neg h1], fun j h1 h2 h3 h4 h5 => sI_nk _ (by omega), fun _ _ _ => rfl⟩
theorem mF_W {a k : Nat} {v : Int32} (h : mF R R') (ha : 60 ≤ a) (hb : a ≤ 63) : mF R (sI R' a k v) := mF_trans h ⟨fun x h1 h2 => by rw [sI_row, if_neg (by omega)], fun j h1 h2 h3 h4 h5 => sI_na _ (by omega), fun _ _ _ => rfl⟩
theorem mF_J {a k : Nat} {v : Int64} (h : mF R R') (ha : a = 34 ∨ a = 64) : mF R (sJ R' a k v) := mF_trans h ⟨fun x h1 h2 => rfl, fun j h1 h2 h3 h4 h5 => rfl, fun x h1 h2 => by funext z; rw [sJ_na _ (by omega)]⟩
theorem OU_keep (h : OU S R bg tot) (hS : cG S S') (hR : mF R R') : OU S' R' bg tot := by
  obtain ⟨h1, h2, h3, h4, h5, h6⟩ := h
  refine ⟨(hS.2.1 12 (by decide) (by decide) (by decide) (by decide)).trans h1, (hR.2.1 30 (by decide) (by decide) (by decide) (by decide) (by decide)).trans h2, ?_, ?_, (hR.2.1 55 (by decide) (by decide) (by decide) (by decide) (by decide)).trans h5, fun j a1 a2 => ?_⟩
  · rw [hS.2.1 14 (by decide) (by decide) (by decide) (by decide), hR.2.1 6 (by decide) (by decide) (by decide) (by decide) (by decide)]; exact h3
  · rw [hS.1 29 (by decide) (by decide) (by decide)]; exact h4
  · rw [hS.1 30 (by decide) (by decide) (by decide), hR.1 65 (by decide) (by decide)]; exact h6 j a1 a2
/-- what waits reaches only links in A -/
def WA (R : amS) (w : Nat) (A : Nat → Prop) : Prop := ∀ i l, i < w → chn (R.1 58) (R.1 62 i) l → ∀ x ∈ l, A x
def CX (Sp Rp T U S R : amS) (cw : Nat → Int64) (tw : Nat → Nat → Int64) (pm fm fmu : Nat → Nat) (np nf : Nat) (own : Nat → Nat × Nat) (fks : Nat → List Nat) (md tc : Nat) (A : Nat → Prop) (g n w hd p q h fn : Nat) (sc : List scE) (ks : List Nat) (dl b j wt : Nat) (tl : Bool) (bg tot : Nat) : Prop :=
  GJ Sp Rp T U S R cw tw pm fm fmu np nf own fks md tc A ∧ OU S R bg tot ∧ cV S (b + h) b p wt ∧ (R.1 34 29 = 2 ∧ R.1 34 32 = nI wt ∧ R.1 34 49 = nI w ∧ R.1 34 51 = nI hd ∧ R.1 34 31 = nI md) ∧ chn (R.1 58) (R.1 34 52) ks ∧ KK Sp Rp S R cw tw fm fmu nf (vR pm fm np nf) g n w hd q h fn sc ks dl b j wt tl ∧ (∀ x ∈ ks, A x) ∧ WA R w A
def GvX (Sp Rp T U S R : amS) (cw : Nat → Int64) (tw : Nat → Nat → Int64) (pm fm fmu : Nat → Nat) (np nf : Nat) (own : Nat → Nat × Nat) (fks : Nat → List Nat) (md tc : Nat) (A : Nat → Prop) (g n w hd p h fn : Nat) (sc : List scE) (ks : List Nat) (dl b j wt : Nat) (tl : Bool) (bg tot : Nat) : Prop :=
  GJ Sp Rp T U S R cw tw pm fm fmu np nf own fks md tc A ∧ OU S R bg tot ∧ cV S (b + h + 1) b p wt ∧ (R.1 34 29 = 2 ∧ R.1 34 32 = nI wt ∧ R.1 34 49 = nI w ∧ R.1 34 51 = nI hd ∧ R.1 34 31 = nI md ∧ R.1 34 53 = -1) ∧ KK Sp Rp S R cw tw fm fmu nf (vR pm fm np nf) g n w hd p h fn sc ks dl b j wt tl ∧ vR pm fm np nf (R.2 34 54) (S.2 31 (b + h)) ∧ WA R w A
/-- an expression is next -/
def Ev (Sp Rp T U S R : amS) (n bg tot : Nat) : Prop := ∃ cw tw pm fm fmu np nf own fks md tc A g w hd p q h fn sc ks dl dl' b j wt tl f m, CX Sp Rp T U S R cw tw pm fm fmu np nf own fks md tc A g n w hd p q h fn sc ks dl' b j wt tl bg tot ∧ R.1 34 53 = nI m ∧ TT Sp Rp true f 0 (nI m) 0 dl p q h fn sc tl ∧ dl' ≤ dl
/-- a value is there -/
def Gv (Sp Rp T U S R : amS) (n bg tot : Nat) : Prop := ∃ cw tw pm fm fmu np nf own fks md tc A g w hd p h fn sc ks dl b j wt tl, GvX Sp Rp T U S R cw tw pm fm fmu np nf own fks md tc A g n w hd p h fn sc ks dl b j wt tl bg tot
/-- the run has stopped with status st -/
def Po (T U S R : amS) (st bg tot : Nat) : Prop := S.1 24 13 = nI st ∧ R.1 34 29 = nI st ∧ (S.1 21 = T.1 21 ∧ S.1 22 = T.1 22 ∧ R.1 35 = U.1 35 ∧ R.1 34 0 = U.1 34 0 ∧ R.1 34 2 = U.1 34 2) ∧ OU S R bg tot ∧ ∃ md wt, md ≤ 2000 ∧ wt ≤ 60 ∧ S.1 25 3 = nI md ∧ R.1 34 31 = nI md ∧ S.1 24 11 = nI wt ∧ R.1 34 32 = nI wt
def Out (Sp Rp T U S R : amS) (fl nE nG bg tot : Nat) : Prop := R.1 34 33 = nI fl ∧ ((∃ n, n ≤ nE ∧ Ev Sp Rp T U S R n bg tot) ∨ (∃ n, n ≤ nG ∧ Gv Sp Rp T U S R n bg tot) ∨ ∃ st, (st = 3 ∨ st = 4 ∨ st = 5) ∧ Po T U S R st bg tot)
def stR (R : amS) (st : Int32) (m : Nat) : amS := sI (sI R 34 29 st) 34 6 (R.1 37 m)
theorem stop_m (hm : m < 256) (st : Int32) : g_159 st (nI m) R = some (.inl none, stR R st m) := by
  simp only [g_159, az_st]
  rw [az_ck_in hm (by decide), nI_clamp (by omega)]
  rfl
theorem Po_st {y : Int32} (hF : FX Sp Rp T U S R) (hO : OU S R bg tot) (hm : md ≤ 2000) (hw : wt ≤ 60) (h1 : S.1 25 3 = nI md) (h2 : R.1 34 31 = nI md) (h3 : S.1 24 11 = nI wt) (h4 : R.1 34 32 = nI wt) (hy : y = Rp.1 37 m) : Po T U (stS S (nI st) y) (stR R (nI st) m) st bg tot := by
  obtain ⟨o1, o2, o3, o4, o5, o6⟩ := hO
  have e37 : R.1 37 m = y := by rw [hF.2.2.1 37 (by decide) (by decide), hy]
  refine ⟨rfl, rfl, ⟨hF.2.1.1, hF.2.1.2, hF.2.2.2.1, hF.2.2.2.2.1, hF.2.2.2.2.2⟩, ⟨o1, o2, ?_, o4, o5, o6⟩, md, wt, hm, hw, h1, h2, h3, h4⟩
  show y = R.1 37 m
  exact e37.symm
theorem cd_S {p : Nat} {o x y : Int32} (hF : FX Sp Rp T U S R) (h : cd Sp p o x y) : cd S p o x y := by
  unfold cd
  rw [hF.1 2 (by decide), hF.1 3 (by decide), hF.1 4 (by decide)]
  exact h
theorem agr_mk {V : Int64 → Int64 → Prop} {w hd t : Nat} (h56 : R'.1 56 = R.1 56) (h58 : R'.1 58 = R.1 58) (hw : ∀ i, i < w → R'.1 60 i = R.1 60 i ∧ R'.1 61 i = R.1 61 i ∧ R'.1 62 i = R.1 62 i ∧ R'.1 63 i = R.1 63 i) (h64 : ∀ i, i < hd → R'.2 64 i = R.2 64 i) (h31 : ∀ i, i < t → S'.2 31 i = S.2 31 i) (h32 : ∀ i, i < wt → S'.1 32 i = S.1 32 i ∧ S'.1 33 i = S.1 33 i) : agr S R S' R' cw cw tw tw fm fmu fm fmu nf nf V V (fun _ => True) w hd t wt :=
  ⟨fun x _ => ⟨by rw [h56], by rw [h58], rfl⟩, hw, h64, h31, h32, fun _ _ => ⟨rfl, rfl, rfl⟩, Nat.le_refl _, fun _ _ h => h⟩
theorem KK_k {V : Int64 → Int64 → Prop} {g n w hd pc h fn dl b j wt : Nat} {sc : List scE} {ks : List Nat} {tl : Bool} (hK : KK Sp Rp S R cw tw fm fmu nf V g n w hd pc h fn sc ks dl b j wt tl) (hA : agr S R S' R' cw cw tw tw fm fmu fm fmu nf nf V V (fun _ => True) w hd (b + h) wt) : KK Sp Rp S' R' cw tw fm fmu nf V g n w hd pc h fn sc ks dl b j wt tl := KK_keep g hK hA (fun _ _ => trivial) (fun _ _ _ _ _ _ => trivial)
theorem WA_k {w : Nat} (h : WA R w A) (h58 : R'.1 58 = R.1 58) (h62 : ∀ i, i < w → R'.1 62 i = R.1 62 i) : WA R' w A := by
  intro i l hi hc x hx
  rw [h58, h62 i hi] at hc
  exact h i l hi hc x hx
/-- what the lists around say -/
theorem TT_hd {mk : Bool} : ∀ (f : Nat) {md : Nat} {c rs : Int32} {dl p q h fn : Nat} {sc : List scE} {tl : Bool}, TT Sp Rp mk f md c rs dl p q h fn sc tl → dl ≤ 20 ∧ h ≤ 4 * dl ∧ q ≤ 501 ∧ sc.length ≤ 58 ∧ sdS 250 256 sc
  | 0, _, _, _, _, _, _, _, _, _, _, h => by unfold TT at h; exact h.elim
  | f + 1, 0, _, _, _, _, _, _, _, _, _, h => by
    unfold TT at h
    obtain ⟨m, a1, a2, a3, a4, a5, a6, a7, -⟩ := h
    exact ⟨a3, a4, a5, a6, a7⟩
  | f + 1, md + 1, _, _, _, _, _, _, _, _, _, h => by
    unfold TT at h
    obtain ⟨m, q1, a1, a2, h⟩ := h
    rcases h with ⟨-, -, rfl, h⟩ | ⟨m', -, -, -, -, h⟩
    · exact TT_hd f h
    · exact TT_hd f h
end RSTATE
