/-! let: its end -/
section LETF
variable {S0 R0 : amS} {N : Nat} {tx : Nat → Nat} {a q sz nc pd fc h nn nb dl : Nat} {cx : cxT} {P : List (Nat × Nat)} {S R Sq R3 : amS}
theorem bV_assoc (q : amQ) (f k : amS → amQ) : az_bV (az_bV q f) k = az_bV q (fun S => az_bV (f S) k) := by
  rcases q with _ | ⟨_ | _, S⟩
  · rfl
  · rename_i v
    cases v <;> rfl
  · rfl
/-- BIND for each variable -/
def adL (S : amS) (sz c0 : Nat) (p : Int32) : Nat → amS
  | 0 => S
  | i + 1 => addS (adL S sz c0 p i) (sz + i) 11 (nI (c0 + i)) p
theorem CR_adL {c0 : Nat} {p : Int32} (hc : CR N tx a sz nc pd fc h cx S) : ∀ i, CR N tx a (sz + i) nc pd fc h cx (adL S sz c0 p i)
  | 0 => hc
  | i + 1 => CR_add (CR_adL hc i) 11 _ _
theorem fC_adL {c0 : Nat} {p : Int32} (nc pd fc : Nat) (cx : cxT) : ∀ i, fC sz nc pd fc cx S (adL S sz c0 p i)
  | 0 => fC_refl _ _ _ _ _ _
  | i + 1 => fC_tr (fC_adL nc pd fc cx i) (fC_add _ _ _ nc pd fc cx) (by omega) (Nat.le_refl _) (Nat.le_refl _) (Nat.le_refl _)
theorem cd_adL {c0 : Nat} {p : Int32} : ∀ i j, j < i → cd (adL S sz c0 p i) (sz + j) 11 (nI (c0 + j)) p
  | 0, j, h => absurd h (by omega)
  | i + 1, j, h => by
    by_cases hj : j = i
    · subst hj; exact cd_add _ _ _
    · exact cd_ag (cd_adL i j (by omega)) ((fC_add (S := adL S sz c0 p i) (sz := sz + i) 11 (nI (c0 + i)) p 0 0 0 []).1 (sz + j) (by omega))
theorem pfC_adL {c0 : Nat} {p : Int32} (hp : pfC S0 S) : ∀ i, pfC S0 (adL S sz c0 p i)
  | 0 => hp
  | i + 1 => pfC_add (pfC_adL hp i) _ _ _
theorem adL_9 {c0 : Nat} {p : Int32} : ∀ i, (adL S sz c0 p i).1 9 = S.1 9
  | 0 => rfl
  | i + 1 => by
    show (addS (adL S sz c0 p i) (sz + i) 11 (nI (c0 + i)) p).1 9 = _
    rw [show (addS (adL S sz c0 p i) (sz + i) 11 (nI (c0 + i)) p).1 9 = (adL S sz c0 p i).1 9 from rfl]
    exact adL_9 i
theorem bind_adL {k0 c0 n : Nat} {p l2 : Int32} (hc : CR N tx a sz nc pd fc h cx S) (hs : sz + n < 502) : ∀ m i, i + m = n → G_87_107 k0 p l2 (nI c0) (nI n) (nI i) (adL S sz c0 p i) = az_bV (G_82 k0 l2 (adL S sz c0 p n)) fun S1 => az_bV (g_90 (nI n) S1) fun S2 => some (.inl none, S2) := by
  intro m
  induction m with
  | zero =>
    intro i hi
    have : i = n := by omega
    subst this
    rw [G_87_107_eq]
    unfold B_87_107
    rw [if_pos (Int32.le_refl _)]
  | succ m ih =>
    intro i hi
    rw [G_87_107_eq]
    unfold B_87_107
    rw [if_neg (nI_ge (by omega) (by omega)), add_c (CR_adL hc i) (by omega), bI_i, nI_add, nI_1]
    exact ih (i + 1) (by omega)
/-- let before its last bracket of variables: n variables told, n expressions hung -/
theorem let_fin {k0 n : Nat} {g : Nat} {v0 : List scE} {c : cxT} (hcx : cx = (g, v0) :: c) (he : EH S0 R0 N tx k0 (dl + 1)) (hN : N ≤ 250) (hb : BD a sz nc pd fc nn nb dl cx) (hh : h ≤ 4 * dl) (hd : dl < 20) {a1 b1 sz1 nc1 fc1 nn1 nb1 : Nat} {P1 : List (Nat × Nat)} {ls rv : List Nat} {S1 R1 : amS} {cs qs Ms Fs : Nat → Nat} {fi la : Int32} (hn : ls.length = n) (hn1 : 1 ≤ n) (hn4 : n ≤ 4) (hT : TLD S0 R0 N tx pd nn nb dl cx a1 b1 sz1 nc1 fc1 (h + n) nn1 nb1 P1 ls rv S1 R1) (hbd : sz1 + 5 ≤ 2 * a1 ∧ nc1 + (pd + n) ≤ a1 ∧ 9 * fc1 ≤ a1 ∧ nn1 ≤ a1 + 1 ∧ nb1 ≤ a1) (hpos : sk N tx a + 4 * n + 5 ≤ a1) (hmo : sz + 1 ≤ sz1 ∧ nc ≤ nc1 ∧ fc ≤ fc1 ∧ nb ≤ nb1 ∧ nn + 1 + n ≤ nn1) (hx0 : ∀ f ∈ cx, f.1 < fc ∨ 1000 ≤ f.1) (hfC : fC sz nc pd fc cx S S1) (hcd : cd S1 sz 1 0 (nI (sk N tx a))) (hfM : fM 1000 1000 nn nb dl P R R1) (hPE : PE P P1 nc nb) (hsd : sdS nc nb (scO cx))
    (hO : OPN P1 a1 (dl + 1) nn nc1 nn1 sz1 fc1 (sz + 1) fc h (fnO cx) n (scO cx) cs qs Ms Fs S1 R1) (hnd : ndF R1 nn 5 (nI (sk N tx a)) 0 fi la (nI n) (nI n)) (hfi : fi = nI (cs 0) ∧ la = nI (cs (n - 1)) ∧ cs (n - 1) < nn1 ∧ nn < cs (n - 1)) (hop : opM R1 (dl + 1) nn 0 (scO cx).length) (h41 : R1.1 41 nn = -1) :
    Sim S0 R0 (az_st (S1.1 5 4) fun x2 => az_bI (G_58 (nI pd) (nI h) (S1.1 12 9) S1) fun x3 S4 => G_87_107 k0 (nI (sk N tx a)) (nI (dl + 1)) x2 x3 0 S4) (az_bV (G_142 (nI nn) R1) (fun R2 => G_152_58 1 R2)) (CP S0 R0 N tx a sz nc pd fc h nn nb dl cx P S R) := by
  subst hn
  subst hcx
  obtain ⟨t1, t2, t3, t4, t5, t6, t7, t8, t9, t10⟩ := hT
  obtain ⟨b1', b2, b3, b4, b5, b6, b7⟩ := hb
  obtain ⟨d1, d2, d3, d4, d5⟩ := hbd
  obtain ⟨n1, n2, n3, n4, n5⟩ := hmo
  have ha1 : a1 ≤ N := t1.2.1.2
  have hsa := sk_ge (N := N) (tx := tx) a
  have hs1 := sk_ge (N := N) (tx := tx) a1
  simp only [az_st]
  rw [show S1.1 5 4 = nI nc1 from t1.2.2.2.1]
  obtain ⟨S4, z1, z2, z3, z4, z5, z6⟩ := bind_c (s0 := h) t1 rv t2 rfl (by omega) (by omega) (by omega) (fun e he => (sdS_lt t5.2.2.2.2 e he).1)
  have hV := mkV_len ls rv nc1 g ls.length
  have hsc := scO_app (g := g) (vs := mkV ls rv nc1 g ls.length) (v0 := v0) (c := c)
  have hVl : (scO ((g, mkV ls rv nc1 g ls.length ++ v0) :: c)).length = ls.length + (scO ((g, v0) :: c)).length := by rw [hsc, List.length_append, hV]
  have hbl := bind_adL (k0 := k0) (c0 := nc1) (n := ls.length) (p := nI (sk N tx a)) (l2 := nI (dl + 1)) z2 (by omega) ls.length 0 (by omega)
  have hbl' : G_87_107 k0 (nI (sk N tx a)) (nI (dl + 1)) (nI nc1) (nI ls.length) 0 S4 = az_bV (G_82 k0 (nI (dl + 1)) (adL S4 sz1 nc1 (nI (sk N tx a)) ls.length)) fun S1 => az_bV (g_90 (nI ls.length) S1) fun S2 => some (.inl none, S2) := hbl
  rw [z1, bI_i, hbl']
  have c5 := CR_adL (c0 := nc1) (p := nI (sk N tx a)) z2 ls.length
  have F5 : ∀ nc pd fc cx, fC sz1 nc pd fc cx S4 (adL S4 sz1 nc1 (nI (sk N tx a)) ls.length) := fun nc pd fc cx => fC_adL nc pd fc cx ls.length
  have D5 : ∀ i, i < ls.length → cd (adL S4 sz1 nc1 (nI (sk N tx a)) ls.length) (sz1 + i) 11 (nI (nc1 + i)) (nI (sk N tx a)) := fun i hi => cd_adL ls.length i hi
  have pf5 : pfC S0 (adL S4 sz1 nc1 (nI (sk N tx a)) ls.length) := pfC_adL (z6 S0 t6) _
  have s59 : (adL S4 sz1 nc1 (nI (sk N tx a)) ls.length).1 9 = S4.1 9 := adL_9 _
  generalize hS5 : adL S4 sz1 nc1 (nI (sk N tx a)) ls.length = S5 at c5 F5 D5 pf5 s59
  -- the reference
  have hba := bindAll_m t3 t8 (by omega) (by omega) hn4 (by omega)
  have hrl := t8.2.1
  have r3 := MR_ba (ls := ls) (rv := rv) (c0 := nc1) (fn := g) t3 (fun i hi => (t8.2.2.1 i hi).2) (fun i hi => by have := (t9.1 i (by omega)).2.1; omega)
  rw [hba, bV_v]
  have jp5 : JP (prP nc1 rv ls.length ++ P1) (nc1 + ls.length) nb1 (mkV ls rv nc1 g ls.length ++ scO ((g, v0) :: c)) S5 (baL R1 (scO ((g, v0) :: c)).length ls rv ls.length) := by
    refine JP_rows (S := S4) (JP_bind (fn := g) t5 hrl t9 (sdS_le hsd n2 (Nat.le_refl _)) z5 (funext (fun k => baL_o _ 46 k (by decide) (by decide) (fun h => absurd h (by decide)))) t10 (by omega)) s59 rfl
  have o4 : ∀ x k, x ≠ 50 → x ≠ 51 → x ≠ 34 → (baL R1 (scO ((g, v0) :: c)).length ls rv ls.length).1 x k = R1.1 x k := fun x k a1 a2 a3 => baL_o _ x k a1 a2 (fun h => absurd h a3)
  have fM4 : ∀ n l x y d P, fM n l x y d P R1 (baL R1 (scO ((g, v0) :: c)).length ls rv ls.length) := fun n l x y d P => fM_ba _ n l x y d P
  have p4m : pfM R0 (baL R1 (scO ((g, v0) :: c)).length ls rv ls.length) := pfM_ba t7 _
  generalize hR4 : baL R1 (scO ((g, v0) :: c)).length ls rv ls.length = R4 at r3 jp5 o4 fM4 p4m
  have nd4 : ndF R4 nn 5 (nI (sk N tx a)) 0 fi la (nI ls.length) (nI ls.length) := by
    obtain ⟨y1, y2, y3, y4, y5, y6, y7⟩ := hnd
    exact ⟨(o4 _ _ (by decide) (by decide) (by decide)).trans y1, (o4 _ _ (by decide) (by decide) (by decide)).trans y2, (o4 _ _ (by decide) (by decide) (by decide)).trans y3, (o4 _ _ (by decide) (by decide) (by decide)).trans y4, (o4 _ _ (by decide) (by decide) (by decide)).trans y5, (o4 _ _ (by decide) (by decide) (by decide)).trans y6, (o4 _ _ (by decide) (by decide) (by decide)).trans y7⟩
  have op4 : opM R4 (dl + 1) nn 0 (scO ((g, v0) :: c)).length := ⟨(o4 _ _ (by decide) (by decide) (by decide)).trans hop.1, (o4 _ _ (by decide) (by decide) (by decide)).trans hop.2.1, (o4 _ _ (by decide) (by decide) (by decide)).trans hop.2.2⟩
  rw [← hsc] at r3 jp5
  have hrvlo : ∀ i, i < ls.length → nb ≤ rv.getD i 0 := fun i hi => (t9.1 i (by omega)).1
  -- the body
  refine Sim_bV (body_y (l := cs (ls.length - 1)) (w := ls.length) (cc := ls.length) (vc := ls.length) (k := 5) (h := h + ls.length) (a := a1) (b := b1) he hN (by omega) (by omega) (by omega) (Or.inr ⟨Or.inl rfl, rfl⟩) ⟨c5, r3, t4, jp5, pf5, p4m⟩ ⟨by omega, by omega, by omega, by omega, by omega, by simp at b6 ⊢; omega, by rw [hVl]; omega⟩ op4 (by omega) nd4 rfl (by omega) (fun _ => ⟨hfi.2.1, hfi.2.2.1, hfi.2.2.2⟩)) ?_
  rintro S8 r ⟨a', b', sz', nc', fc', nn', nb', P', R8, l', cc', cB, v1, v2, v3, v4, v5, v6, v7, v8, v9, v10, v11, v12⟩
  obtain ⟨i1, i2, i3, i4, i5, i6, i7, i8, i9⟩ := v6
  rw [if_neg (by omega)] at v8 v10
  obtain ⟨j1, j2, j3, j4, j5, j6⟩ := v2
  obtain ⟨l1, l2, l3, l4, l5, l6, l7⟩ := v3
  have ha' : a' ≤ N := j1.2.1.2
  have o9 := v8.2.2.1 (dl + 1) (Nat.le_refl _)
  have gB := gate_body (w := ls.length) (vc := ls.length) v10 (Or.inr ⟨Or.inl rfl, rfl⟩) (by omega) i9
  rw [if_neg (by omega)] at gB
  have hl2 := leave2_c (h := h) (vs := mkV ls rv nc1 g ls.length) (show CR N tx a' sz' nc' pd fc' (h + (mkV ls rv nc1 g ls.length).length + 1) ((g, mkV ls rv nc1 g ls.length ++ v0) :: c) S8 by rw [hV]; exact j1) (by omega) (by rw [hV]; omega)
  rw [hV] at hl2
  rw [hl2, bV_v]
  have c15 := CR_h (CR_add (CR_rl j1) 13 (nI ls.length) (-1)) (h + 1)
  generalize hS15 : sI (addS (sI S8 5 6 (nI (scO ((g, v0) :: c)).length)) sz' 13 (nI ls.length) (-1)) 23 4 (nI (h + 1)) = S15 at c15
  have F15 : ∀ nc pd fc cx, fC sz' nc pd fc cx S8 S15 := fun nc pd fc cx => by
    rw [← hS15]
    exact fC_tr (fC_56 _ sz' nc pd fc cx) (fC_tr (fC_add 13 (nI ls.length) (-1) nc pd fc cx) (fC_h (nI (h + 1)) sz' nc pd fc cx) (Nat.le_refl _) (Nat.le_refl _) (Nat.le_refl _) (Nat.le_refl _)) (Nat.le_refl _) (Nat.le_refl _) (Nat.le_refl _) (Nat.le_refl _)
  have D15 : cd S15 sz' 13 (nI ls.length) (-1) := by rw [← hS15]; exact cd_add (S := sI S8 5 6 (nI (scO ((g, v0) :: c)).length)) 13 (nI ls.length) (-1)
  have pf15 : pfC S0 S15 := by rw [← hS15]; exact pfC_h (pfC_add (pfC_56 j5 _) _ _ _) _
  have n159 : S15.1 9 = S8.1 9 := by rw [← hS15]; rfl
  have hxo : ∀ x, (∀ f ∈ ((g, v0) :: c : cxT), f.1 ≠ x) → ∀ f ∈ ((g, mkV ls rv nc1 g ls.length ++ v0) :: c : cxT), f.1 ≠ x := fun x hf f hm => by
    rcases List.mem_cons.mp hm with rfl | hm
    · exact hf (g, v0) List.mem_cons_self
    · exact hf f (List.mem_cons_of_mem _ hm)
  -- from the end of the variables to the end
  have A4 : fC sz1 nc1 pd fc1 ((g, v0) :: c) S1 S5 := fC_tr z3 (F5 nc1 pd fc1 _) (Nat.le_refl _) (Nat.le_refl _) (Nat.le_refl _) (Nat.le_refl _)
  have A8 : fC sz1 nc1 pd fc1 ((g, v0) :: c) S1 S8 := fC_trans A4 v7 (by omega) (by omega) (Nat.le_refl _) (Nat.le_refl _) (fun x _ h => hxo x h)
  have A15 : fC sz1 nc1 pd fc1 ((g, v0) :: c) S1 S15 := fC_tr A8 (F15 nc1 pd fc1 _) (by omega) (Nat.le_refl _) (Nat.le_refl _) (Nat.le_refl _)
  have B15 : fC (sz1 + ls.length) (nc1 + ls.length) pd fc1 ((g, mkV ls rv nc1 g ls.length ++ v0) :: c) S5 S15 := fC_tr v7 (F15 _ pd fc1 _) (by omega) (Nat.le_refl _) (Nat.le_refl _) (Nat.le_refl _)
  have PB : PE P1 (prP nc1 rv ls.length ++ P1) nc1 nb := PE_bind hrvlo
  have M8 : fM nn (cs (ls.length - 1)) nn1 nb (dl + 1) P1 R1 R8 := fM_trans (nc := nc1) (fM4 nn (cs (ls.length - 1)) nn1 nb (dl + 1) P1) v8 (Nat.le_refl _) n4 (Nat.le_refl _) (Or.inl rfl) PB
  have hP1' : ∀ x ∈ P1, x ∈ P' := fun x hx => v9.1 x (List.mem_append_right _ hx)
  have hO2 := opn_keep (P' := P') (a' := a') (nc' := nc') hO A15 M8 (Or.inl ⟨hn1, rfl⟩) hP1' (by omega) (by omega) (fun f hf => by
    rcases hx0 f hf with h9 | h9
    · exact Or.inl h9
    · exact Or.inr (by omega))
  have Mx : fM 1000 1000 nn nb dl P R R8 := fM_trans (nc := nc) hfM (fM_le M8 (n' := 1000) (l' := 1000) (nn' := nn) (nb' := nb) (dl' := dl) (by omega) (Nat.le_refl _) (by omega) (Or.inr (Nat.le_refl _)) (Or.inr (by omega))) (Nat.le_refl _) (Nat.le_refl _) (Nat.le_refl _) (Or.inl rfl) hPE
  have PP : PE P P' nc nb := PE_trans (PE_trans hPE PB n2 (Nat.le_refl _)) v9 (by omega) n4
  have Dz : cd S15 sz 1 0 (nI (sk N tx a)) := cd_ag hcd (A15.1 sz (by omega))
  have Db : ∀ i, i < ls.length → cd S15 (sz1 + i) 11 (nI (nc1 + i)) (nI (sk N tx a)) := fun i hi => cd_ag (D5 i hi) (B15.1 (sz1 + i) (by omega))
  have s7 : ∀ i, i < ls.length → S15.1 7 (nc1 + i) = nI (h + i) := fun i hi => ((B15.2.2.2.1 (nc1 + i) (by omega)).2.1).trans ((((F5 (nc1 + ls.length) 0 0 []).2.2.2.1 (nc1 + i) (by omega)).2.1).trans (z4 i hi))
  have r43 : ∀ i, i < ls.length → R8.1 43 (4 * nn + i) = nI (rv.getD i 0) := fun i hi => (M8.2.2.2.2.2 nn (by omega) i (by omega)).trans (t8.2.2.2 i hi)
  rw [hsc] at j2 j4
  refine Or.inr ⟨_, rfl, a', b', sz' + 1, nc', fc', nn', nb', P', R8, mkV ls rv nc1 g ls.length, v1, c15, j2, j3, JP_drop (JP_rows j4 n159 rfl), pf15, j6, ⟨by omega, by omega, by omega, by omega, by omega, by omega⟩, ⟨by omega, by omega, by omega, by omega, by omega⟩, fC_tr hfC A15 (by omega) n2 (Nat.le_refl _) n3, Mx, PP, (M8.2.1 nn (by omega) (by omega)).trans h41, ⟨o9.1.trans op4.1, o9.2.1.trans op4.2.1, o9.2.2.trans op4.2.2⟩, ⟨gB.2, by rw [v10.2.2.2.2.2.1]; exact nI_ne0 (by omega) (by omega)⟩, Or.inl v5, ?_, ?_, v10.2.1⟩
  · intro S2 R2 k1 k2 k3 k4
    obtain ⟨⟨f1, hf1⟩, hch⟩ := opn_tt hO2 k1 (by omega) (by omega) (Nat.le_refl _) (by omega) k2 (by omega) k3 (by omega)
    have kk : cK (sz1 + ls.length) sz' fc1 fc' nc' S8 S2 := cK_trans (cK_of_fC (F15 nc' pd fc' []) (Nat.le_refl _) (Nat.le_refl _) (Nat.le_refl _) (fun f hf => by cases hf)) (cK_le k1 (by omega) (by omega) (by omega) (Nat.le_refl _) (Nat.le_refl _))
    obtain ⟨f2, hf2⟩ := v12 S2 R2 kk (fun m h1 h2 => ⟨k2.1 m (by omega) h2, k2.2 m (by omega) h2⟩) k3 (by omega)
    obtain ⟨m1, m2, m3, m4, m5, m6, m7, m8⟩ := k2.1 nn (Nat.le_refl _) (by omega)
    obtain ⟨s1, s2, s3, s4, s5⟩ := hdT_mk (q := sz' + 1) (a' := a' + 1) (nc := nc') (nb := nb') (dl := dl) (h := h) (by omega) hh (by omega) (show 17 * (scO ((g, v0) :: c)).length ≤ 4 * (a' + 1 + dl) by omega) (JP_drop j4).2.2.2.2 (by omega) (by omega) (by omega)
    have p37 : R2.1 37 nn = nI (sk N tx a) := m2.trans v10.2.1
    have hcs : ∀ i, i < ls.length → cs i < 256 := fun i hi => by have := (hO2.2.1 i hi).1; omega
    have hbnd : bnd S2 R2 nn nc1 h g (mkV ls rv nc1 g ls.length) := bnd_mk (ls := ls) (rv := rv) (s0 := h) (fun i hi => (m8 i (by omega)).trans (r43 i hi)) (fun i hi => ((k1.2.2.1 (nc1 + i) (by omega)).2.1).trans (s7 i hi)) (KJ_sub k3 (fun x hx => v9.1 x (List.mem_append_left _ hx))) (by omega) (fun i hi => by have := (t9.1 i (by omega)).2.1; omega) ls.length (Nat.le_refl _)
    rw [hsc] at hf2
    refine ⟨f1 + f2 + 1, fun tl => ⟨nn, rfl, by omega, s1, s2, s3, s4, s5, Or.inr (Or.inr (Or.inr (Or.inr (Or.inr (Or.inl ⟨m1.trans v10.1, mkV ls rv nc1 g ls.length, nc1, nI cB, sz1, sz', cs, qs, ?_, by omega, by omega, ?_, ?_, ?_, ?_, ?_, hbnd, ?_, ?_, rfl⟩)))))⟩⟩
    · rw [hV]; exact m7.trans v10.2.2.2.2.2.2
    · rw [p37]; exact cd_ag Dz (k1.1 sz (Nat.le_refl _) (by omega))
    · rw [hV]; exact ⟨hO2.1.1, hO2.1.2.1, by rw [m4, v10.2.2.2.1]; exact hfi.1, hcs, hch⟩
    · rw [hV]; exact fun i hi => TT_le (by omega) (hf1 i hi)
    · rw [hV, k2.2 (cs (ls.length - 1)) (by omega) (by omega)]; exact v11 (by omega)
    · rw [hV, p37]; exact fun i hi => cd_ag (Db i hi) (k1.1 (sz1 + i) (by omega) (by omega))
    · rw [hV, m5, v10.2.2.2.2.1]
      exact TT_le (by omega) (hf2 tl)
    · rw [hV]; exact cd_ag D15 (k1.1 sz' (by omega) (by omega))
  · rw [Dz.1, v10.1]; decide
end LETF
