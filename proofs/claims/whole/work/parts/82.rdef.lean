/-! run: what is alike while a program runs -/
section RDEF
/-- links ks stand for the variables of sc -/
def scl (r56 : Nat → Int32) : List scE → List Nat → Prop
  | [], [] => True
  | e :: sc, k :: ks => r56 k = nI e.2.2.1 ∧ scl r56 sc ks
  | _, _ => False
theorem scl_keep {r r' : Nat → Int32} : ∀ {sc : List scE} {ks : List Nat}, scl r sc ks → (∀ k ∈ ks, r' k = r k) → scl r' sc ks
  | [], [], _, _ => trivial
  | e :: sc, k :: ks, h, hk => ⟨by rw [hk k List.mem_cons_self]; exact h.1, scl_keep h.2 (fun x hx => hk x (List.mem_cons_of_mem _ hx))⟩
  | [], _ :: _, h, _ => h.elim
  | _ :: _, [], h, _ => h.elim
theorem scl_len {r : Nat → Int32} : ∀ {sc : List scE} {ks : List Nat}, scl r sc ks → sc.length = ks.length
  | [], [], _ => rfl
  | e :: sc, k :: ks, h => by rw [List.length_cons, List.length_cons, scl_len h.2]
  | [], _ :: _, h => h.elim
  | _ :: _, [], h => h.elim
theorem chn_lt {r : Nat → Int32} : ∀ {l : List Nat} {k : Int32}, chn r k l → ∀ x ∈ l, x < 120000
  | n :: l, _, h, x, hx => by
    rcases List.mem_cons.mp hx with rfl | hx
    · exact h.2.1
    · exact chn_lt h.2.2 x hx
theorem sdS_mem {u v : Nat} : ∀ {sc : List scE}, sdS u v sc → ∀ e ∈ sc, e.2.1 < u ∧ e.2.2.1 < v
  | e' :: sc, h, e, he => by
    rcases List.mem_cons.mp he with rfl | he
    · exact ⟨h.1, h.2.1⟩
    · have := sdS_mem h.2.2 e he
      have h1 := h.1
      have h2 := h.2.1
      exact ⟨by omega, by omega⟩
/-- the reference finds the link of a variable -/
theorem find_l {R : amS} : ∀ {sc : List scE} {ks : List Nat} {u v : Nat} {lk : Int32} {e : scE}, chn (R.1 58) lk ks → scl (R.1 56) sc ks → sdS u v sc → v ≤ 256 → e ∈ sc → ∃ k, (e, k) ∈ sc.zip ks ∧ k < 120000 ∧ k ∈ ks ∧ G_163_5 (nI e.2.2.1) lk R = some (.inl (some (.int (nI k))), R)
  | [], _, _, _, _, _, _, _, _, _, he => absurd he (by simp)
  | _ :: _, [], _, _, _, _, _, h, _, _, _ => h.elim
  | e' :: sc, k' :: ks, u, v, lk, e, hc, hs, hd, hv, he => by
    obtain ⟨h1, h2, h3⟩ := hc
    obtain ⟨s1, s2⟩ := hs
    obtain ⟨d1, d2, d3⟩ := hd
    rw [G_163_5_eq]
    unfold B_163_5
    subst h1
    rw [az_ck_in h2 (by decide), nI_clamp (by omega), s1]
    by_cases hq : e' = e
    · subst hq
      exact ⟨k', by simp, h2, List.mem_cons_self, by rw [if_pos rfl]⟩
    · have he2 : e ∈ sc := by
        rcases List.mem_cons.mp he with h | h
        · exact absurd h.symm hq
        · exact h
      have := sdS_mem d3 e he2
      obtain ⟨k, a1, a2, a3, a4⟩ := find_l (e := e) h3 s2 d3 (by omega) he2
      refine ⟨k, ?_, a2, List.mem_cons_of_mem _ a3, ?_⟩
      · rw [List.zip_cons_cons]
        exact List.mem_cons_of_mem _ a1
      · rw [if_neg (fun h => by have := (nI_eq (by omega) (by omega)).mp h; omega), az_ck_in h2 (by decide)]
        exact a4
theorem find_m {R : amS} {sc : List scE} {ks : List Nat} {e : scE} (hc : chn (R.1 58) (R.1 34 52) ks) (hs : scl (R.1 56) sc ks) (hd : sdS 250 256 sc) (he : e ∈ sc) : ∃ k, (e, k) ∈ sc.zip ks ∧ k < 120000 ∧ k ∈ ks ∧ G_163 (nI e.2.2.1) R = some (.inl (some (.int (nI k))), R) := by
  unfold G_163
  exact find_l hc hs hd (Nat.le_refl _) he
/-- what a function finds in its frame (st from b on), or took along (tw) -/
def env (Sp : amS) (st tw cw : Nat → Int64) (b h fn : Nat) (sc : List scE) (ks : List Nat) : Prop :=
  ∀ p ∈ sc.zip ks, (p.1.2.2.2 = fn → ∃ s, s < h ∧ Sp.1 7 p.1.2.1 = nI s ∧ st (b + s) = cw p.2) ∧
    (p.1.2.2.2 ≠ fn → fn < 28 → ∀ i t, i < t → t ≤ 26 → Sp.1 17 fn = nI t → Sp.1 18 (26 * fn + i) = nI p.1.2.1 → tw i = cw p.2) ∧
    (Sp.1 9 p.1.2.1 = 1 → ∃ x, x < 2000 ∧ cw p.2 = vE 4 x)
/-- the continuation: a value comes to the slot b + h, then the order pc is next -/
def actK (Sp S R : amS) (cw : Nat → Int64) (tw : Nat → Nat → Int64) (fm fmu : Nat → Nat) (nf n w hd pc h fn : Nat) (sc : List scE) (ks : List Nat) (dl b j wt : Nat) : Prop :=
  scl (R.1 56) sc ks ∧ sdS 250 256 sc ∧ sc.length ≤ 58 ∧ env Sp (S.2 31) (tw j) cw b h fn sc ks ∧ (fn < 28 → 1 ≤ b ∧ j < nf ∧ S.2 31 (b - 1) = vE 3 (fm j) ∧ fmu j = fn) ∧
  b ≤ 105 * wt ∧ wt ≤ 60 ∧ h ≤ 4 * dl ∧ dl ≤ 20 ∧ hd ≤ b + h ∧ n ≤ 7 * dl + 150 * wt + 6 ∧ w ≤ 2 * dl + 50 * wt + 6 ∧ pc ≤ 501
def KK (Sp Rp S R : amS) (cw : Nat → Int64) (tw : Nat → Nat → Int64) (fm fmu : Nat → Nat) (nf : Nat) (V : Int64 → Int64 → Prop) : Nat → Nat → Nat → Nat → Nat → Nat → Nat → List scE → List Nat → Nat → Nat → Nat → Nat → Bool → Prop
  | 0, _, _, _, _, _, _, _, _, _, _, _, _, _ => False
  | g + 1, n, w, hd, pc, h, fn, sc, ks, dl, b, j, wt, tl => actK Sp S R cw tw fm fmu nf n w hd pc h fn sc ks dl b j wt ∧
    ((∃ q n' dl' x, cd Sp pc 9 (nI q) x ∧ n' + 1 ≤ n ∧ dl' ≤ dl ∧ KK Sp Rp S R cw tw fm fmu nf V g n' w hd q h fn sc ks dl' b j wt tl) ∨
     (∃ vs sc' kv ks' h' n' dl' x, cd Sp pc 13 (nI vs.length) x ∧ sc = vs ++ sc' ∧ ks = kv ++ ks' ∧ vs.length = kv.length ∧ h = h' + vs.length ∧ vs.length ≤ 4 ∧ n' + 1 ≤ n ∧ dl' ≤ dl ∧ KK Sp Rp S R cw tw fm fmu nf V g n' w hd (pc + 1) h' fn sc' ks' dl' b j wt tl) ∨
     (cd Sp pc 16 0 (-1) ∧ ∃ w' wt' pc' b' h' fn' sc' ks' dl' j' tl' n', w = w' + 1 ∧ wt = wt' + 1 ∧ n' + 1 ≤ n ∧ R.1 60 w' = 6 ∧ chn (R.1 58) (R.1 62 w') ks' ∧ S.1 32 wt' = nI pc' ∧ S.1 33 wt' = nI b' ∧ b = b' + h' + 1 ∧ KK Sp Rp S R cw tw fm fmu nf V g n' w' hd pc' h' fn' sc' ks' dl' b' j' wt' tl') ∨
     (tl = false ∧ w = 0 ∧ wt = 0 ∧ cd Sp pc 7 0 (-1)) ∨
     (tl = false ∧ ∃ w', w = w' + 1 ∧ chn (R.1 58) (R.1 62 w') ks ∧ ∃ m, m < 256 ∧ R.1 61 w' = nI m ∧
       ((R.1 60 w' = 0 ∧ ∃ f rs q dl1 dl2 n' tl', cd Sp pc 8 0 (-1) ∧ TT Sp Rp true f 1 (nI m) rs dl1 (pc + 1) q h fn sc tl' ∧ dl1 ≤ dl ∧ n ≤ 7 * dl1 + 150 * wt + 6 ∧ w ≤ 2 * dl1 + 50 * wt + 6 ∧ n' + 1 ≤ n ∧ dl2 ≤ dl1 ∧ KK Sp Rp S R cw tw fm fmu nf V g n' w' hd q h fn sc ks dl2 b j wt tl') ∨
        (R.1 60 w' = 1 ∧ ∃ a b1 c q q2 f dl1 dl2 n' tl' x y, a < 256 ∧ b1 < 256 ∧ c < 256 ∧ Rp.1 39 m = nI a ∧ Rp.1 41 a = nI b1 ∧ Rp.1 40 m = nI c ∧ cd Sp pc 10 (nI (q2 + 1)) x ∧ TT Sp Rp true f 0 (nI b1) 0 dl1 (pc + 1) q2 h fn sc tl' ∧ cd Sp q2 9 (nI q) y ∧ TT Sp Rp true f 0 (nI c) 0 dl1 (q2 + 1) q h fn sc tl' ∧ dl1 ≤ dl ∧ dl2 + 1 ≤ dl1 ∧ n' + 1 ≤ n ∧ KK Sp Rp S R cw tw fm fmu nf V g n' w' hd q h fn sc ks dl2 b j wt tl') ∨
        (R.1 60 w' = 3 ∧ ∃ e sc' k ks' h0 a f q2 dl1 dl2 n' tl' x, sc = e :: sc' ∧ ks = k :: ks' ∧ h = h0 + 1 ∧ a < 256 ∧ Rp.1 36 m = 6 ∧ Rp.1 44 m = 1 ∧ Rp.1 39 m = nI a ∧ Rp.1 43 (4 * m) = nI e.2.2.1 ∧ (∃ y, y < 2000 ∧ cw k = vE 4 y) ∧ Sp.1 7 e.2.1 = nI h0 ∧ e.2.2.2 = fn ∧ cd Sp pc 12 (nI h0) x ∧ cd Sp (pc + 1) 8 0 (-1) ∧ TT Sp Rp true f 1 (Rp.1 41 a) (Rp.1 40 m) dl1 (pc + 2) q2 h fn sc tl' ∧ cd Sp q2 13 1 (-1) ∧ dl1 ≤ dl ∧ dl2 + 1 ≤ dl1 ∧ n' + 5 ≤ n ∧ KK Sp Rp S R cw tw fm fmu nf V g n' w' hd (q2 + 1) h0 fn sc' ks' dl2 b j wt tl') ∨
        (R.1 60 w' = 4 ∧ ∃ e src dl2 n' tl' x, e ∈ sc ∧ Rp.1 38 m = nI e.2.2.1 ∧ Sp.1 9 e.2.1 = 1 ∧ Lo Sp fn e src ∧ cd Sp pc 12 src x ∧ dl2 ≤ dl ∧ n' + 1 ≤ n ∧ KK Sp Rp S R cw tw fm fmu nf V g n' w' hd (pc + 1) h fn sc ks dl2 b j wt tl') ∨
        (∃ i h0 hd0 k p q1 cs qs f dl1 dl2 pc2 n' tl', h = h0 + i ∧ hd = hd0 + i ∧ i < k ∧ k ≤ 5 ∧ R.1 63 w' = nI i ∧ pc = qs (i + 1) ∧ opq Rp k m p q1 cs qs ∧ (∀ a, a < k → TT Sp Rp true f 0 (nI (cs a)) 0 dl1 (qs a) (qs (a + 1)) (h0 + a) fn sc false) ∧ (∀ a, a < i → V (R.2 64 (hd0 + a)) (S.2 31 (b + h0 + a))) ∧ dl1 ≤ dl ∧ dl2 + 1 ≤ dl1 ∧ n' + 5 ≤ n ∧ KK Sp Rp S R cw tw fm fmu nf V g n' w' hd0 pc2 h0 fn sc ks dl2 b j wt tl' ∧
          ((R.1 60 w' = 2 ∧ Rp.1 36 m = 5 ∧ Rp.1 44 m = nI k ∧ ∃ vs c0 q2 f2 x, k = vs.length ∧ k ≤ 4 ∧ (∀ i, i < k → cd Sp (q1 + i) 11 (nI (c0 + i)) (Rp.1 37 m)) ∧ bnd Sp Rp m c0 h0 fn vs ∧ TT Sp Rp true f2 1 (Rp.1 41 (cs (k - 1))) (Rp.1 40 m) dl1 (q1 + k) q2 (h0 + k) fn (vs ++ sc) tl' ∧ cd Sp q2 13 (nI k) x ∧ pc2 = q2 + 1) ∨
           (R.1 60 w' = 5 ∧ Rp.1 36 m = 9 ∧ Rp.1 42 m = nI k ∧ ∃ o, o < 13 ∧ Rp.1 38 m = nI o ∧ k = (if o < 7 then 2 else 1) ∧ cd Sp q1 (prO o) 0 (Rp.1 37 m) ∧ pc2 = q1 + 1) ∨
           (R.1 60 w' = 5 ∧ Rp.1 36 m = 10 ∧ Rp.1 42 m = nI k ∧ ∃ k', k = k' + 1 ∧ cd Sp q1 (if tl' then 15 else 14) (nI k') (Rp.1 37 m) ∧ Rp.1 45 m = b2i tl' ∧ pc2 = q1 + 1))))))
end RDEF
