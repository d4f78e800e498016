/-! one plain instruction of AM is one of the JVM -/
theorem am_cls (c : Nat) (h : c < 10) : ∃ q, vwCl[c]? = some q ∧ (∀ w ∈ u_ws q.1 q.2.1 q.2.2, w ∈ amTb) ∧ (∀ k, k < q.2.2 → parseFieldDescriptor (q.2.1 k).2.2.1 = some (am_ty c k)) ∧ (∀ a, a < q.2.2 → ∀ b, b < q.2.2 → a ≠ b → (q.2.1 a).2.1 ≠ (q.2.1 b).2.1) ∧ q.2.2 = am_ns.getD c 0 := by
  match c, h with
  | 0, _ => exact ⟨_, rfl, inX1, tyX1_ok, nmX1, rfl⟩
  | 1, _ => exact ⟨_, rfl, inX2, tyX2_ok, nmX2, rfl⟩
  | 2, _ => exact ⟨_, rfl, inX3, tyX3_ok, nmX3, rfl⟩
  | 3, _ => exact ⟨_, rfl, inX4, tyX4_ok, nmX4, rfl⟩
  | 4, _ => exact ⟨_, rfl, inX5, tyX5_ok, nmX5, rfl⟩
  | 5, _ => exact ⟨_, rfl, inX6, tyX6_ok, nmX6, rfl⟩
  | 6, _ => exact ⟨_, rfl, inX7, tyX7_ok, nmX7, rfl⟩
  | 7, _ => exact ⟨_, rfl, inX9, tyX9_ok, nmX9, rfl⟩
  | 8, _ => exact ⟨_, rfl, inX12, tyX12_ok, nmX12, rfl⟩
  | 9, _ => exact ⟨_, rfl, inX13, tyX13_ok, nmX13, rfl⟩
  | n + 10, h => exact absurd h (by omega)
theorem am_cls_lt {c : Nat} {q : vw_C} (h : vwCl[c]? = some q) : c < 10 := (List.getElem?_eq_some_iff.mp h).1
theorem am_fit_ok {ρ : Nat → Nat} {ty : FieldType} {v : Value} (h : am_fit ty v = true) : narrow ty (am_rv ρ v) = am_rv ρ v ∧ fits ty (am_rv ρ v) = true := by
  unfold am_fit at h
  split at h
  · exact ⟨rfl, rfl⟩
  · exact ⟨rfl, rfl⟩
  · next x =>
    have h1 : x = 0 ∨ x = 1 := by simpa using h
    rcases h1 with rfl | rfl
    · exact ⟨(by decide : narrow .boolean (.int 0) = .int 0), (by decide : fits .boolean (.int 0) = true)⟩
    · exact ⟨(by decide : narrow .boolean (.int 1) = .int 1), (by decide : fits .boolean (.int 1) = true)⟩
  · exact ⟨rfl, rfl⟩
  · exact ⟨rfl, rfl⟩
  · cases h
theorem am_FL_get {own : String} {ix q : Nat} (h : am_FL.any (fun e => e.1 == own && e.2.1 == ix && e.2.2.1 == q) = true) : ∃ r, vwCl[q / 100 % 100]? = some r ∧ q % 100 < r.2.2 ∧ ((q / 10000 = 1 ∧ Cond.fieldLinkNest own ix (r.2.1 (q % 100)).1 (r.2.1 (q % 100)).2.1 (r.2.1 (q % 100)).2.2.1 "ListDesk" ∈ lw_tbl) ∨ (¬ q / 10000 = 1 ∧ Cond.fieldLink own ix (r.2.1 (q % 100)).1 (r.2.1 (q % 100)).2.1 (r.2.1 (q % 100)).2.2.1 ∈ amTb)) := by
  obtain ⟨e, he, h1⟩ := List.any_eq_true.mp h
  simp only [Bool.and_eq_true, beq_iff_eq] at h1
  obtain ⟨⟨rfl, rfl⟩, rfl⟩ := h1
  have h2 := List.all_eq_true.mp am_FL_ok e he
  unfold am_flw at h2
  split at h2
  · next r hr =>
    simp only [Bool.and_eq_true, decide_eq_true_eq] at h2
    refine ⟨r, hr, h2.1, ?_⟩
    have h3 := h2.2
    split at h3
    · next h4 => exact Or.inl ⟨h4, List.mem_of_getElem? (of_decide_eq_true h3)⟩
    · next h4 => exact Or.inr ⟨h4, am_wd_in h3⟩
  · cases h2
/-- the texts of the enum's words and 'nil', and what the library's own text members read -/
def am_lens : List Nat := [6, 2, 3, 6, 4, 5, 1, 1, 1, 1, 1, 3, 4, 3, 3, 5, 5, 3, 3, 3]
def am_St (adK adV : Nat → Nat) (Hb : Heap) (U : State) : Prop := ∀ i : Nat, i < 20 → va_O "java/lang/String" (adK i) (am_A Hb) U Hb ∧ va_OF "java/lang/String" "coder" "B" (.int 0) (adK i) (am_A Hb) U Hb ∧ va_OF "java/lang/String" "value" "[B" (.ref (adV i)) (adK i) (am_A Hb) U Hb ∧ va_T .byte (adV i) (am_lens.getD i 0) (fun j => .int ((am_tx.getD i []).getD j 0)) (am_A Hb) U Hb
def am_J (ρ : Nat → Nat) (Hb : Heap) (U : State) : Prop := (∃ adV : Nat → Nat, am_St (fun i => ρ (1100 + i)) adV Hb U) ∧ va_Z "java/lang/String" "COMPACT_STRINGS" "Z" (.int 1) (am_A Hb) U Hb ∧ va_Zq "jdk/internal/util/Preconditions" "SIOOBE_FORMATTER" "Ljava/util/function/BiFunction;" (am_A Hb) U Hb
theorem am_J.moved {ρ : Nat → Nat} {Hb : Heap} {u U : State} (ha : u.vm.Alike U.vm) (h : am_J ρ Hb u) : am_J ρ Hb U := by
  obtain ⟨⟨adV, h1⟩, h2, h3⟩ := h
  exact ⟨⟨adV, fun i hi => ⟨va_O.moved ha (h1 i hi).1, va_OF.moved ha (h1 i hi).2.1, va_OF.moved ha (h1 i hi).2.2.1, va_T.moved ha (h1 i hi).2.2.2⟩⟩, va_Z.moved ha h2, va_Zq.moved ha h3⟩
/-- what holds of a state in which AM's worlds are read: the classes, the nest's links, the things that stand from the start -/
def am_U (ρ : Nat → Nat) (D : va_G) (cI cJ cZ : ClassId) (Hb : Heap) (X : amX) (U : State) : Prop :=
  va_K D vwCl [(cI, .int), (cJ, .long), (cZ, .boolean)] U ∧
  (∀ a i b n d, Cond.fieldLinkNest a i b n d "ListDesk" ∈ lw_tbl → va_Nw (.fieldLinkNest a i b n d "ListDesk") U) ∧
  (va_X (ρ 2000) X.1 X.2 U Hb ∧ ρ 2000 < Hb.size) ∧
  (va_Z "ListDesk$1" "$SwitchMap$ListDesk$Word" "[I" (.ref (ρ 1201)) (am_A Hb) U Hb ∧ va_T .int (ρ 1201) 19 (fun j => .int (am_sw.getD j 0)) (am_A Hb) U Hb) ∧
  (va_Z "ListDesk$Word" "ALL" "[LListDesk$Word;" (.ref (ρ 1200)) (am_A Hb) U Hb ∧ va_T (.object "ListDesk$Word") (ρ 1200) 19 (fun j => .ref (ρ (1000 + j))) (am_A Hb) U Hb) ∧
  (∀ i, i < 19 → va_O "ListDesk$Word" (ρ (1000 + i)) (am_A Hb) U Hb ∧ va_OF "java/lang/Enum" "ordinal" "I" (.int (Int32.ofNat i)) (ρ (1000 + i)) (am_A Hb) U Hb ∧ va_OF "ListDesk$Word" "operands" "I" (.int (am_opn.getD i 0)) (ρ (1000 + i)) (am_A Hb) U Hb ∧ va_OF "ListDesk$Word" "order" "I" (.int (am_ord.getD i 0)) (ρ (1000 + i)) (am_A Hb) U Hb ∧ va_OF "ListDesk$Word" "text" "Ljava/lang/String;" (.ref (ρ (1100 + i))) (ρ (1000 + i)) (am_A Hb) U Hb) ∧
  vk_R "ListDesk$Reader" 96 "nil" (ρ 1119) U ∧ am_J ρ Hb U
theorem am_U.warm {ρ : Nat → Nat} {D : va_G} {cI cJ cZ : ClassId} {Hb : Heap} {X : amX} {s U : State} (hW : s.WarmedH U.vm) (h : am_U ρ D cI cJ cZ Hb X s) : am_U ρ D cI cJ cZ Hb X U := by
  obtain ⟨h1, h2, h3, h4, h5, h6, h7, h8⟩ := h
  have ha := hW.alike
  exact ⟨va_K.moved ha h1, fun a i b n d hm => va_Nw.warmF hW (h2 a i b n d hm), ⟨va_X.moved ha h3.1, h3.2⟩, ⟨va_Z.moved ha h4.1, va_T.moved ha h4.2⟩, ⟨va_Z.moved ha h5.1, va_T.moved ha h5.2⟩,
    fun i hi => ⟨va_O.moved ha (h6 i hi).1, va_OF.moved ha (h6 i hi).2.1, va_OF.moved ha (h6 i hi).2.2.1, va_OF.moved ha (h6 i hi).2.2.2.1, va_OF.moved ha (h6 i hi).2.2.2.2⟩, vk_R.warm hW h7, am_J.moved ha h8⟩
theorem am_nest1 : Cond.fieldLinkNest "ListDesk$Reader" 165 "ListDesk$Word" "ALL" "[LListDesk$Word;" "ListDesk" ∈ lw_tbl := by decide +kernel
theorem am_nest2 : Cond.fieldLinkNest "ListDesk$Reader" 147 "ListDesk$Word" "text" "Ljava/lang/String;" "ListDesk" ∈ lw_tbl := by decide +kernel
theorem am_nest3 : Cond.fieldLinkNest "ListDesk$Reader" 248 "ListDesk$Word" "operands" "I" "ListDesk" ∈ lw_tbl := by decide +kernel
theorem am_nest4 : Cond.fieldLinkNest "ListDesk$Reader" 251 "ListDesk$Word" "order" "I" "ListDesk" ∈ lw_tbl := by decide +kernel
theorem am_gs1 : Cond.fieldLink "ListDesk$Reader" 169 "ListDesk$1" "$SwitchMap$ListDesk$Word" "[I" ∈ amTb := am_wd_in (i := 665) (by decide +kernel)
section PLAIN
variable {p : Program} {l : Launch} {e : Env} {R : Room} {s : State} {m : MethodId} {args : Array Value} {below : List Frame} {meth : Method} {c : Code} {H : Heap} {locs : List Loc} {cells slots : Nat} {Q : State → Prop}
variable {ρ : Nat → Nat} {D : va_G} {cI cJ cZ : ClassId} {Hb : Heap} {X : amX} {M : amM}
/-- what a frame of the method M stands on -/
def am_Fr (p : Program) (R : Room) (s : State) (m : MethodId) (args : Array Value) (meth : Method) (c : Code) (ρ : Nat → Nat) (D : va_G) (cI cJ cZ : ClassId) (Hb : Heap) (X : amX) (M : amM) : Prop :=
  p.tables.exec = Jvm.exec ∧ c.code = am_b M ∧ s.vm.findClass (am_own M) = some m.cls ∧ (∀ w ∈ amTb, w.before args s = true) ∧ am_U ρ D cI cJ cZ Hb X s ∧ ((am_y M).name = "<init>" → meth.name = "<init>") ∧ c.maxLocals = am_mL M ∧ am_Ba Hb s.heap ∧ am_ρ ρ Hb ∧ 10 ≤ R.frames ∧ 400 ≤ R.locals
theorem am_S (hb : am_Ba Hb s.heap) (hB : am_Ba Hb H) (hs : s.heap.size ≤ H.size) (hl : ∀ z ∈ locs, Hb.size ≤ z.base) : va_S (am_A Hb) s.heap H locs :=
  ⟨hs, fun q _ h2 => by
    have h3 : q < Hb.size := Nat.not_le.mp h2
    rw [hB.2 q h3, hb.2 q h3], hl⟩
theorem am_Sb (hB : am_Ba Hb H) (hl : ∀ z ∈ locs, Hb.size ≤ z.base) : va_S (am_A Hb) Hb H locs := ⟨hB.1, fun q h1 _ => hB.2 q h1, hl⟩
theorem am_Ba_of {A0 : Heap} {H1 : Heap} {locs1 : List Loc} (h : va_S (am_A A0) A0 H1 locs1) : am_Ba A0 H1 := ⟨h.1, fun q hq => h.2.1 q hq (Nat.not_le.mpr hq)⟩
/-- a step that leaves the world -/
theorem am_keep {fr1 : amF} {w w1 : amW} {pc1 : Nat} {lv1 : List (Nat × Value)} {st1 : List Value} {ls1 : Array Slot}
    (he : (fr1, w1) = ((pc1, lv1, st1), w)) (hR : am_Rep ρ D cI cJ cZ Hb w H) (hlocs : ∀ z ∈ locs, Hb.size ≤ z.base) (hs : s.heap.size ≤ H.size) (hL1 : lv_has ls1 (am_mL M) (lv1.map (am_rl ρ)))
    (kk : ∀ (H1 : Heap) (locs1 : List Loc) (ls1 : Array Slot), am_Rep ρ D cI cJ cZ Hb w1 H1 → lv_has ls1 (am_mL M) (fr1.2.1.map (am_rl ρ)) → (∀ z ∈ locs1, Hb.size ≤ z.base) → s.heap.size ≤ H1.size → W p l e R s m args below meth c H1 locs1 (cells + (am_cN w1 - am_cN w)) (slots + (am_sN w1 - am_sN w)) Q (F0 m fr1.1 ls1 (fr1.2.2.map (am_rv ρ)))) :
    W p l e R s m args below meth c H locs cells slots Q (F0 m pc1 ls1 (st1.map (am_rv ρ))) := by
  cases he
  have h1 := kk H locs ls1 hR hL1 hlocs hs
  rw [Nat.sub_self, Nat.sub_self, Nat.add_zero, Nat.add_zero] at h1
  exact h1
/-- a step that writes a cell -/
theorem am_wrote {fr1 : amF} {w w1 : amW} {pc1 a : Nat} {lv1 : List (Nat × Value)} {st1 : List Value} {ls1 : Array Slot} {cl1 : amC} {H1 : Heap} {locs1 : List Loc}
    (he : (fr1, w1) = ((pc1, lv1, st1), (w.1.set a cl1, w.2))) (hR : am_Rep ρ D cI cJ cZ Hb w H) (hs : s.heap.size ≤ H.size) (hL1 : lv_has ls1 (am_mL M) (lv1.map (am_rl ρ))) (hz : H1.size = H.size)
    (hP1 : va_P D vwCl ((am_ws ρ cI cJ cZ w.1).set a (ρ a, am_E ρ cI cJ cZ cl1)) H1) (hS1 : va_S (am_A Hb) Hb H1 locs1)
    (kk : ∀ (H1 : Heap) (locs1 : List Loc) (ls1 : Array Slot), am_Rep ρ D cI cJ cZ Hb w1 H1 → lv_has ls1 (am_mL M) (fr1.2.1.map (am_rl ρ)) → (∀ z ∈ locs1, Hb.size ≤ z.base) → s.heap.size ≤ H1.size → W p l e R s m args below meth c H1 locs1 (cells + (am_cN w1 - am_cN w)) (slots + (am_sN w1 - am_sN w)) Q (F0 m fr1.1 ls1 (fr1.2.2.map (am_rv ρ)))) :
    W p l e R s m args below meth c H1 locs1 cells slots Q (F0 m pc1 ls1 (st1.map (am_rv ρ))) := by
  cases he
  rw [am_ws_set] at hP1
  have hl : (w.1.set a cl1).length = w.1.length := List.length_set
  have h1 := kk H1 locs1 ls1 ⟨hP1, by rw [hl]; exact hR.2.1, fun h0 => by rw [hz, hl]; exact hR.2.2.1 h0, am_Ba_of hS1⟩ hL1 hS1.2.2 (by rw [hz]; exact hs)
  have e1 : am_cN (w.1.set a cl1, w.2) = am_cN w := by simp [am_cN]
  have e2 : am_sN (w.1.set a cl1, w.2) = am_sN w := rfl
  rw [e1, e2, Nat.sub_self, Nat.sub_self, Nat.add_zero, Nat.add_zero] at h1
  exact h1

section WR
variable {p : Program} {l : Launch} {e : Env} {R : Room} {s : State} {m : MethodId} {args : Array Value} {below : List Frame} {meth : Method} {c : Code} {H : Heap} {locs : List Loc} {cells slots : Nat} {Q : State → Prop}
variable {cc : ByteArray} {pc : Nat} {ls : Array Slot} {rest : List Value} {D : va_G} {A : Nat → Prop} {a : Nat} {tys : List (ClassId × FieldType)} {ws : va_W} {H0 : Heap}
/-! stores, with the heap's size kept in sight -/
theorem am_wi (hx : p.tables.exec = Jvm.exec) (hb : c.code = cc) (hK : va_K D vwCl tys s) (hP : va_P D vwCl ws H) (hD : va_D A ws) (hS : va_S A H0 H locs) (q0 t0 : Nat) {cA : ClassId} {n : Nat} {f : Nat → Int32} (ha : ws[q0]? = some (a, .inl (cA, n, .inl f))) (ht : tys[t0]? = some (cA, .int)) {i x : Int32} (hin : vp_in i n) (hdg : decode cc pc = .ok (.iastore, 1))
    (kk : ∀ (H1 : Heap) (locs1 : List Loc), H1.size = H.size → va_P D vwCl (ws.set q0 (a, .inl (cA, n, .inl (upd f i.toNatClampNeg x)))) H1 → va_S A H0 H1 locs1 → W p l e R s m args below meth c H1 locs1 cells slots Q (F0 m (pc + 1) ls rest)) : W p l e R s m args below meth c H locs cells slots Q (F0 m pc ls (.int x :: .int i :: .ref a :: rest)) := by
  refine W.iast hx hb (hP q0 _ ha) ((hK.2 t0 _ ht).1 n (fun j => .int (f j))) (fun q => by cases q) (by show ¬ (i < 0 ∨ (arrV _ _ _).slots.size ≤ _); rw [arrV_size]; exact hin) rfl rfl hdg fun H1 e1 z oq => ?_
  refine kk H1 _ z (hP.set hD ha ?_ oq) (hS.put z oq (hD.2 q0 _ ha))
  show H1[a]? = some (vp_cell cA (n, .inl (upd f i.toNatClampNeg x)))
  rw [e1, vp_cell_i, vp_cell_i, arrV_store]
  congr 2
  funext q
  by_cases hq : q = i.toNatClampNeg <;> simp [updV, upd, hq]
theorem am_wz (hx : p.tables.exec = Jvm.exec) (hb : c.code = cc) (hK : va_K D vwCl tys s) (hP : va_P D vwCl ws H) (hD : va_D A ws) (hS : va_S A H0 H locs) (q0 t0 : Nat) {cA : ClassId} {n : Nat} {f : Nat → Int32} (ha : ws[q0]? = some (a, .inl (cA, n, .inl f))) (ht : tys[t0]? = some (cA, .boolean)) {i x : Int32} (hin : vp_in i n) (hdg : decode cc pc = .ok (.bastore, 1))
    (kk : ∀ (H1 : Heap) (locs1 : List Loc), H1.size = H.size → va_P D vwCl (ws.set q0 (a, .inl (cA, n, .inl (upd f i.toNatClampNeg (vp_nar .boolean x))))) H1 → va_S A H0 H1 locs1 → W p l e R s m args below meth c H1 locs1 cells slots Q (F0 m (pc + 1) ls rest)) : W p l e R s m args below meth c H locs cells slots Q (F0 m pc ls (.int x :: .int i :: .ref a :: rest)) := by
  refine W.zast hx hb (hP q0 _ ha) ((hK.2 t0 _ ht).1 n (fun j => .int (f j))) (fun q => by cases q) (by show ¬ (i < 0 ∨ (arrV _ _ _).slots.size ≤ _); rw [arrV_size]; exact hin) rfl rfl hdg fun H1 e1 z oq => ?_
  refine kk H1 _ z (hP.set hD ha ?_ oq) (hS.put z oq (hD.2 q0 _ ha))
  show H1[a]? = some (vp_cell cA (n, .inl (upd f i.toNatClampNeg (vp_nar .boolean x))))
  rw [e1, vp_cell_i, vp_cell_i, arrV_store]
  congr 2
  funext q
  by_cases hq : q = i.toNatClampNeg
  · subst hq
    simp [updV, upd, vp_nar]
    try rfl
  · simp [updV, upd, hq]
theorem am_wl (hx : p.tables.exec = Jvm.exec) (hb : c.code = cc) (hK : va_K D vwCl tys s) (hP : va_P D vwCl ws H) (hD : va_D A ws) (hS : va_S A H0 H locs) (q0 t0 : Nat) {cA : ClassId} {n : Nat} {f : Nat → Int64} (ha : ws[q0]? = some (a, .inl (cA, n, .inr (.inl f)))) (ht : tys[t0]? = some (cA, .long)) {i : Int32} {x : Int64} (hin : vp_in i n) (hdg : decode cc pc = .ok (.lastore, 1))
    (kk : ∀ (H1 : Heap) (locs1 : List Loc), H1.size = H.size → va_P D vwCl (ws.set q0 (a, .inl (cA, n, .inr (.inl (vp_updL f i.toNatClampNeg x))))) H1 → va_S A H0 H1 locs1 → W p l e R s m args below meth c H1 locs1 cells slots Q (F0 m (pc + 1) ls rest)) : W p l e R s m args below meth c H locs cells slots Q (F0 m pc ls (.long x :: .int i :: .ref a :: rest)) := by
  refine W.last hx hb (hP q0 _ ha) ((hK.2 t0 _ ht).1 n (fun j => .long (f j))) (fun q => by cases q) (by show ¬ (i < 0 ∨ (arrV _ _ _).slots.size ≤ _); rw [arrV_size]; exact hin) rfl rfl hdg fun H1 e1 z oq => ?_
  refine kk H1 _ z (hP.set hD ha ?_ oq) (hS.put z oq (hD.2 q0 _ ha))
  show H1[a]? = some (vp_cell cA (n, .inr (.inl (vp_updL f i.toNatClampNeg x))))
  rw [e1, vp_cell_l, vp_cell_l, arrV_store]
  congr 2
  funext q
  by_cases hq : q = i.toNatClampNeg <;> simp [updV, vp_updL, hq]
/-- putfield: by a plain link (0), a nest mate's (1), a final field in its constructor (2) -/
theorem am_wp (hx : p.tables.exec = Jvm.exec) (hb : c.code = cc) {own C : String} {T : u_T} {N ci index : Nat} (hts : ∀ w ∈ amTb, w.before args s = true) (hin : ∀ w ∈ u_ws C T N, w ∈ amTb) (ty0 : Nat → FieldType) (hty : ∀ k, k < N → parseFieldDescriptor (T k).2.2.1 = some (ty0 k)) (hnm : ∀ a, a < N → ∀ b, b < N → a ≠ b → (T a).2.1 ≠ (T b).2.1) (hown : s.vm.findClass own = some m.cls) (hK : va_K D vwCl tys s) (hP : va_P D vwCl ws H) (hD : va_D A ws) (hS0 : va_S A H0 H locs) (q0 : Nat) {fs : List Value} (he : ws[q0]? = some (a, .inr (ci, fs))) (hc : vwCl[ci]? = some (C, T, N)) (k : Nat) (hk : k < N)
    (hmode : ((T k).2.2.2 = false ∧ (Cond.fieldLink own index (T k).1 (T k).2.1 (T k).2.2.1).before args s = true) ∨ ((T k).2.2.2 = false ∧ (Cond.fieldLinkNest own index (T k).1 (T k).2.1 (T k).2.2.1 "ListDesk").before args s = true) ∨ ((T k).2.2.2 = true ∧ meth.name = "<init>" ∧ (T k).1 = own ∧ (Cond.fieldLink own index (T k).1 (T k).2.1 (T k).2.2.1).before args s = true))
    {v : Value} (hn : narrow (ty0 k) v = v) (hfit : fits (ty0 k) v = true) (hl : k < fs.length) (hdg : decode cc pc = .ok (.putfield index, 3))
    (kk : ∀ (H1 : Heap) (locs1 : List Loc), H1.size = H.size → va_P D vwCl (ws.set q0 (a, .inr (ci, fs.set k v))) H1 → va_S A H0 H1 locs1 → W p l e R s m args below meth c H1 locs1 cells slots Q (F0 m (pc + 3) ls rest)) : W p l e R s m args below meth c H locs cells slots Q (F0 m pc ls (v :: .ref a :: rest)) := by
  have hap := va_apart (own := own) hts hin ty0 hty hnm hK hc
  obtain ⟨r, h1, cell, q1, q2, q3, q4⟩ := hP q0 _ he
  have hr : r = (C, T, N) := Option.some.inj (h1.symm.trans hc)
  subst hr
  obtain ⟨hS, hfc, kC, hkC, hkind⟩ := hK.1 ci _ hc
  obtain ⟨cf, kf, fi, f, hi, hsl⟩ := hS k hk
  have hlay := hts _ (hin _ (u_in_lay hk))
  unfold u_lay at hlay
  have hst := (u_facts hfc hkC (u_lays hts hin hk) hi).1
  have hend : ∀ (H' : Heap), H'[a]? = some (cell.setSlot f.slot v) → H'.size = H.size → (∀ q, q ≠ a → H'[q]? = H[q]?) → W p l e R s m args below meth c H' (locs ++ [⟨a, f.slot⟩]) cells slots Q (F0 m (pc + 3) ls rest) := fun H' e1 e2 e3 => by
    rw [hsl] at e1 ⊢
    exact kk H' _ e2 (hP.set hD he ⟨_, hc, t_OB.to (V := updV (vp_V fs) k v) ⟨_, e1, q2, q3, t_set q4 hap hk v⟩ (fun j _ => vp_updV_set hl v j)⟩ e3) (hS0.put e2 e3 (hD.2 q0 _ he))
  rcases hmode with ⟨hf, hlk⟩ | ⟨hf, hlk⟩ | ⟨hf, hin2, hdecl, hlk⟩
  · rw [if_neg (by rw [hf]; decide)] at hlay
    have h6 := u_store hfc hkC hkind hlay hi (hty k hk) hn hfit
    exact W.putK hx hb (f := f) ⟨hown, hlk, ⟨_, _, _, hi⟩, hst⟩ (by rw [q2]; exact h6) q1 q3 (by rw [hsl]; exact k2_hasslot (q4 k hk)) rfl rfl hdg hend
  · rw [if_neg (by rw [hf]; decide)] at hlay
    have h6 := u_store hfc hkC hkind hlay hi (hty k hk) hn hfit
    exact va_WputK hx hb (f := f) hown hlk hi hst (by rw [q2]; exact h6) q1 q3 (by rw [hsl]; exact k2_hasslot (q4 k hk)) rfl rfl hdg hend
  · rw [if_pos hf] at hlay
    have hcf : m.cls = cf := by
      obtain ⟨_, _, c', _, _, _, -, -, hf', -, -, -, hown2, -⟩ := Cond.laysFinal_spec hlay
      have e1 : c' = cf := by have := hi.symm.trans hf'; simp at this; exact this.1.symm
      rw [hdecl] at hown2
      rw [← e1]; exact Option.some.inj (hown.symm.trans hown2)
    have h6 := u_fits hfc hkC hkind (Or.inr hlay) hi (hty k hk) hn hfit
    exact W.putFinK hx hb hown hlk hi hst hcf hin2 (by rw [q2]; exact h6) q1 q3 (by rw [hsl]; exact k2_hasslot (q4 k hk)) rfl rfl hdg hend
end WR

theorem am_fin4 {i : Nat} (h : i < 4) : ((Fin.ofNat 4 i : Fin 4) : Nat) = i := Nat.mod_eq_of_lt h
theorem am_dvs {ρ : Nat → Nat} {q j : Nat} (hj : j < am_ns.getD q 0) : defaultValue (am_ty q j) = vp_V (((List.range (am_ns.getD q 0)).map (fun k => defaultValue (am_ty q k))).map (am_rv ρ)) j := by
  have h1 : am_rv ρ (defaultValue (am_ty q j)) = defaultValue (am_ty q j) := by cases am_ty q j <;> rfl
  unfold vp_V
  rw [List.getD_eq_getElem?_getD, List.getElem?_map, List.getElem?_map, List.getElem?_range hj]
  exact h1.symm

set_option maxHeartbeats 4000000 in
set_option maxRecDepth 100000 in
theorem am_plain (hF : am_Fr p R s m args meth c ρ D cI cJ cZ Hb X M) {pc len ix : Nat} {ins : Instr} {lv : List (Nat × Value)} {st : List Value} {w w1 : amW} {fr1 : amF} {ls : Array Slot}
    (hchk : am_chk M (pc, ins, len, ix) = true) (hn : am_next X (am_mL M) ins len (pc, lv, st) w = some (fr1, w1))
    (hR : am_Rep ρ D cI cJ cZ Hb w H) (hL : lv_has ls (am_mL M) (lv.map (am_rl ρ))) (hlocs : ∀ z ∈ locs, Hb.size ≤ z.base) (hs : s.heap.size ≤ H.size)
    (hcc : cells + (am_cN w1 - am_cN w) ≤ R.cells) (hcs : slots + (am_sN w1 - am_sN w) ≤ R.slots)
    (hbi : ∀ j, ins = .invokevirtual j → 900 ≤ j → W p l e R s m args below meth c H locs cells slots Q (F0 m pc ls (st.map (am_rv ρ))))
    (kk : ∀ (H1 : Heap) (locs1 : List Loc) (ls1 : Array Slot), am_Rep ρ D cI cJ cZ Hb w1 H1 → lv_has ls1 (am_mL M) (fr1.2.1.map (am_rl ρ)) → (∀ z ∈ locs1, Hb.size ≤ z.base) → s.heap.size ≤ H1.size → W p l e R s m args below meth c H1 locs1 (cells + (am_cN w1 - am_cN w)) (slots + (am_sN w1 - am_sN w)) Q (F0 m fr1.1 ls1 (fr1.2.2.map (am_rv ρ)))) :
    W p l e R s m args below meth c H locs cells slots Q (F0 m pc ls (st.map (am_rv ρ))) := by
  obtain ⟨hx, hb, hown, hts, hU, hini, hml, hBs, hρ, hRf, hRl⟩ := hF
  have hSs := am_S hBs hR.2.2.2 hs hlocs
  have hSb := am_Sb hR.2.2.2 hlocs
  have hD : va_D (am_A Hb) (am_ws ρ cI cJ cZ w.1) := am_D hρ hR.2.1
  have hK := hU.1
  cases ins with
  | aconst_null =>
    have h : (fr1, w1) = ((pc + 1, lv, .null :: st), w) := (Option.some.inj hn).symm
    have hdg : decode (am_b M) pc = .ok (.aconst_null, 1) := of_decide_eq_true hchk
    exact lv_null hx hb hdg (am_keep (st1 := .null :: st) h hR hlocs hs hL kk)
  | iconst n =>
    have h : (fr1, w1) = ((pc + len, lv, .int (Int32.ofInt n) :: st), w) := (Option.some.inj hn).symm
    have hend : W p l e R s m args below meth c H locs cells slots Q (F0 m (pc + len) ls (.int (Int32.ofInt n) :: st.map (am_rv ρ))) := am_keep (st1 := .int (Int32.ofInt n) :: st) h hR hlocs hs hL kk
    have h1 : ((decide (ix = 0) && decide (len = 1) && am_dc M pc (.iconst n) 1) || (decide (ix = 1) && decide (len = 2) && am_dc M pc (.bipush n) 2 && decide ((Int8.ofInt n).toInt32 = Int32.ofInt n)) || (decide (ix = 2) && decide (len = 3) && am_dc M pc (.sipush n) 3 && decide ((Int16.ofInt n).toInt32 = Int32.ofInt n)) || (decide (10 ≤ ix) && ((decide (len = 2) && am_dc M pc (.ldc (ix - 10)) 2) || (decide (len = 3) && am_dc M pc (.ldc_w (ix - 10)) 3)) && am_CI.any (fun e => e.1 == am_own M && e.2.1 == ix - 10 && e.2.2.1 == n))) = true := hchk
    simp only [Bool.or_eq_true, Bool.and_eq_true, decide_eq_true_eq, am_dc] at h1
    rcases h1 with ((⟨⟨-, rfl⟩, hdg⟩ | ⟨⟨⟨-, rfl⟩, hdg⟩, hv⟩) | ⟨⟨⟨-, rfl⟩, hdg⟩, hv⟩) | ⟨⟨-, hdg⟩, hv⟩
    · exact lv_iconst hx hb hdg rfl hend
    · exact lv_bipush hx hb hdg hv hend
    · exact lv_sipush hx hb hdg hv hend
    · obtain ⟨e1, he1, he2⟩ := List.any_eq_true.mp hv
      simp only [Bool.and_eq_true, beq_iff_eq] at he2
      obtain ⟨⟨h7, h8⟩, h9⟩ := he2
      have h10 := am_wd_in (List.all_eq_true.mp am_CI_ok e1 he1)
      rw [h7, h8, h9] at h10
      rcases hdg with ⟨rfl, hdg⟩ | ⟨rfl, hdg⟩
      · exact lv_ldc hx hb hown (hts _ h10) hdg hend
      · exact lv_ldcw hx hb hown (hts _ h10) hdg hend
  | jsr_w n =>
    have h : (fr1, w1) = ((pc + len, lv, .long (Int64.ofInt n) :: st), w) := (Option.some.inj hn).symm
    have hend : W p l e R s m args below meth c H locs cells slots Q (F0 m (pc + len) ls (.long (Int64.ofInt n) :: st.map (am_rv ρ))) := am_keep (st1 := .long (Int64.ofInt n) :: st) h hR hlocs hs hL kk
    have h1 : ((decide (len = 1) && decide (n = 0 ∨ n = 1) && am_dc M pc (.lconst (Fin.ofNat 2 n.toNat)) 1) || (decide (len = 3) && am_dc M pc (.ldc2_w ix) 3 && am_CJ.any (fun e => e.1 == am_own M && e.2.1 == ix && e.2.2.1 == n))) = true := hchk
    simp only [Bool.or_eq_true, Bool.and_eq_true, decide_eq_true_eq, am_dc] at h1
    rcases h1 with ⟨⟨rfl, hv⟩, hdg⟩ | ⟨⟨rfl, hdg⟩, hv⟩
    · rcases hv with rfl | rfl
      · exact lv_lconst hx hb hdg (by decide) hend
      · exact lv_lconst hx hb hdg (by decide) hend
    · obtain ⟨e1, he1, he2⟩ := List.any_eq_true.mp hv
      simp only [Bool.and_eq_true, beq_iff_eq] at he2
      obtain ⟨⟨h7, h8⟩, h9⟩ := he2
      have h10 := am_wd_in (List.all_eq_true.mp am_CJ_ok e1 he1)
      rw [h7, h8, h9] at h10
      exact lv_ldc2 hx hb hown (hts _ h10) hdg hend
  | ldc q =>
    have hn1 : (if q = 1119 then am_push 2 (.ref 1119) (pc, lv, st) w else none) = some (fr1, w1) := hn
    split at hn1
    · have h : (fr1, w1) = ((pc + 2, lv, .ref 1119 :: st), w) := (Option.some.inj hn1).symm
      have h1 : (decide (len = 2) && am_dc M pc (.ldc ix) 2 && decide (am_own M = "ListDesk$Reader" ∧ ix = 96)) = true := hchk
      simp only [Bool.and_eq_true, decide_eq_true_eq, am_dc] at h1
      obtain ⟨⟨-, hdg⟩, ho, rfl⟩ := h1
      have hnil := hU.2.2.2.2.2.2.1
      rw [ho] at hown
      intro T hT X9
      obtain ⟨t, a1, b1⟩ := (am_keep (st1 := .ref 1119 :: st) h hR hlocs hs hL kk) T hT X9
      exact ⟨t, X9.ldcString hx (own := "ListDesk$Reader") (text := "nil") (index := 96) (a := ρ 1119) hown hnil.1 hnil.2 (g := F0 m pc ls (st.map (am_rv ρ))) rfl (by rw [hb]; exact hdg) t a1, b1⟩
    · cases hn1
  | iload i =>
    obtain ⟨x, e1, h⟩ := am_iload_inv hn
    have hg1 := am_lget hL e1
    have h1 : ((decide (len = 2) && am_dc M pc (.iload i) 2) || (decide (len = 1) && decide (i < 4) && am_dc M pc (.iload_n (Fin.ofNat 4 i)) 1)) = true := hchk
    simp only [Bool.or_eq_true, Bool.and_eq_true, decide_eq_true_eq, am_dc] at h1
    rcases h1 with ⟨rfl, hdg⟩ | ⟨⟨rfl, hi⟩, hdg⟩
    · exact lv_iload hx hb hdg hg1 (am_keep (st1 := .int x :: st) h hR hlocs hs hL kk)
    · exact lv_iload_n hx hb hdg (am_fin4 hi) hg1 (am_keep (st1 := .int x :: st) h hR hlocs hs hL kk)
  | lload i =>
    obtain ⟨x, e1, h⟩ := am_lload_inv hn
    have hg1 := am_lget hL e1
    have h1 : ((decide (len = 2) && am_dc M pc (.lload i) 2) || (decide (len = 1) && decide (i < 4) && am_dc M pc (.lload_n (Fin.ofNat 4 i)) 1)) = true := hchk
    simp only [Bool.or_eq_true, Bool.and_eq_true, decide_eq_true_eq, am_dc] at h1
    rcases h1 with ⟨rfl, hdg⟩ | ⟨⟨rfl, hi⟩, hdg⟩
    · exact lv_lload hx hb hdg hg1 (am_keep (st1 := .long x :: st) h hR hlocs hs hL kk)
    · exact lv_lload_n hx hb hdg (am_fin4 hi) hg1 (am_keep (st1 := .long x :: st) h hR hlocs hs hL kk)
  | aload i =>
    have h1 : ((decide (len = 2) && am_dc M pc (.aload i) 2) || (decide (len = 1) && decide (i < 4) && am_dc M pc (.aload_n (Fin.ofNat 4 i)) 1)) = true := hchk
    simp only [Bool.or_eq_true, Bool.and_eq_true, decide_eq_true_eq, am_dc] at h1
    rcases am_aload_inv hn with ⟨x, e1, h⟩ | ⟨e1, h⟩
    · have hg1 := am_lget hL e1
      rcases h1 with ⟨rfl, hdg⟩ | ⟨⟨rfl, hi⟩, hdg⟩
      · exact lv_aload hx hb hdg hg1 (am_keep (st1 := .ref x :: st) h hR hlocs hs hL kk)
      · exact lv_aload_n hx hb hdg (am_fin4 hi) hg1 (am_keep (st1 := .ref x :: st) h hR hlocs hs hL kk)
    · have hg1 := am_lget hL e1
      rcases h1 with ⟨rfl, hdg⟩ | ⟨⟨rfl, hi⟩, hdg⟩
      · exact lv_aloadN hx hb hdg hg1 (am_keep (st1 := .null :: st) h hR hlocs hs hL kk)
      · exact lv_aload_nN hx hb hdg (am_fin4 hi) hg1 (am_keep (st1 := .null :: st) h hR hlocs hs hL kk)
  | istore i =>
    obtain ⟨x, st', e1, hi, h⟩ := am_istore_inv hn
    have e1 : st = .int x :: st' := e1
    subst e1
    have h1 : ((decide (len = 2) && am_dc M pc (.istore i) 2) || (decide (len = 1) && decide (i < 4) && am_dc M pc (.istore_n (Fin.ofNat 4 i)) 1)) = true := hchk
    simp only [Bool.or_eq_true, Bool.and_eq_true, decide_eq_true_eq, am_dc] at h1
    show W p l e R s m args below meth c H locs cells slots Q (F0 m pc ls (.int x :: st'.map (am_rv ρ)))
    rcases h1 with ⟨rfl, hdg⟩ | ⟨⟨rfl, hi4⟩, hdg⟩
    · exact lv_istore hx hb hdg hL hi (am_st1_map ρ lv i (.int x)) (fun ls1 hl1 => am_keep h hR hlocs hs hl1 kk)
    · exact lv_istore_n hx hb hdg (am_fin4 hi4) hL hi (am_st1_map ρ lv i (.int x)) (fun ls1 hl1 => am_keep h hR hlocs hs hl1 kk)
  | lstore i =>
    obtain ⟨x, st', e1, hi, h⟩ := am_lstore_inv hn
    have e1 : st = .long x :: st' := e1
    subst e1
    have h1 : ((decide (len = 2) && am_dc M pc (.lstore i) 2) || (decide (len = 1) && decide (i < 4) && am_dc M pc (.lstore_n (Fin.ofNat 4 i)) 1)) = true := hchk
    simp only [Bool.or_eq_true, Bool.and_eq_true, decide_eq_true_eq, am_dc] at h1
    show W p l e R s m args below meth c H locs cells slots Q (F0 m pc ls (.long x :: st'.map (am_rv ρ)))
    rcases h1 with ⟨rfl, hdg⟩ | ⟨⟨rfl, hi4⟩, hdg⟩
    · exact lv_lstore hx hb hdg hL hi (am_st2_map ρ lv i (.long x)) (fun ls1 hl1 => am_keep h hR hlocs hs hl1 kk)
    · exact lv_lstore_n hx hb hdg (am_fin4 hi4) hL hi (am_st2_map ρ lv i (.long x)) (fun ls1 hl1 => am_keep h hR hlocs hs hl1 kk)
  | astore i =>
    obtain ⟨v, st', hv, e1, hi, h⟩ := am_astore_inv hn
    have e1 : st = v :: st' := e1
    subst e1
    have h1 : ((decide (len = 2) && am_dc M pc (.astore i) 2) || (decide (len = 1) && decide (i < 4) && am_dc M pc (.astore_n (Fin.ofNat 4 i)) 1)) = true := hchk
    simp only [Bool.or_eq_true, Bool.and_eq_true, decide_eq_true_eq, am_dc] at h1
    rcases hv with rfl | ⟨x, rfl⟩
    · show W p l e R s m args below meth c H locs cells slots Q (F0 m pc ls (.null :: st'.map (am_rv ρ)))
      rcases h1 with ⟨rfl, hdg⟩ | ⟨⟨rfl, hi4⟩, hdg⟩
      · exact lv_astoreN hx hb hdg hL hi (am_st1_map ρ lv i .null) (fun ls1 hl1 => am_keep h hR hlocs hs hl1 kk)
      · exact lv_astore_nN hx hb hdg (am_fin4 hi4) hL hi (am_st1_map ρ lv i .null) (fun ls1 hl1 => am_keep h hR hlocs hs hl1 kk)
    · show W p l e R s m args below meth c H locs cells slots Q (F0 m pc ls (.ref (ρ x) :: st'.map (am_rv ρ)))
      rcases h1 with ⟨rfl, hdg⟩ | ⟨⟨rfl, hi4⟩, hdg⟩
      · exact lv_astore hx hb hdg hL hi (am_st1_map ρ lv i (.ref x)) (fun ls1 hl1 => am_keep h hR hlocs hs hl1 kk)
      · exact lv_astore_n hx hb hdg (am_fin4 hi4) hL hi (am_st1_map ρ lv i (.ref x)) (fun ls1 hl1 => am_keep h hR hlocs hs hl1 kk)
  | iinc i n =>
    obtain ⟨x, e1, hi, h⟩ := am_iinc_inv hn
    have hdg : decode (am_b M) pc = .ok (.iinc i n, 3) := of_decide_eq_true hchk
    obtain ⟨k, hk⟩ := List.getElem?_of_mem (List.mem_map_of_mem (f := am_rl ρ) (am_ld_mem e1))
    exact lv_iinc (k := k) hx hb hdg hL hk rfl hi (am_st1_map ρ lv i (.int (x + Int32.ofInt n))) (fun ls1 hl1 => am_keep h hR hlocs hs hl1 kk)
  | iadd =>
    obtain ⟨x, y, st', e1, h⟩ := am_ii_inv hn
    have e1 : st = .int y :: .int x :: st' := e1
    subst e1
    have hdg : decode (am_b M) pc = .ok (.iadd, 1) := of_decide_eq_true hchk
    exact lv_iadd hx hb hdg (am_keep (st1 := .int (x + y) :: st') h hR hlocs hs hL kk)
  | isub =>
    obtain ⟨x, y, st', e1, h⟩ := am_ii_inv hn
    have e1 : st = .int y :: .int x :: st' := e1
    subst e1
    have hdg : decode (am_b M) pc = .ok (.isub, 1) := of_decide_eq_true hchk
    exact lv_isub hx hb hdg (am_keep (st1 := .int (x - y) :: st') h hR hlocs hs hL kk)
  | imul =>
    obtain ⟨x, y, st', e1, h⟩ := am_ii_inv hn
    have e1 : st = .int y :: .int x :: st' := e1
    subst e1
    have hdg : decode (am_b M) pc = .ok (.imul, 1) := of_decide_eq_true hchk
    exact lv_imul hx hb hdg (am_keep (st1 := .int (x * y) :: st') h hR hlocs hs hL kk)
  | iand =>
    obtain ⟨x, y, st', e1, h⟩ := am_ii_inv hn
    have e1 : st = .int y :: .int x :: st' := e1
    subst e1
    have hdg : decode (am_b M) pc = .ok (.iand, 1) := of_decide_eq_true hchk
    exact lv_iand hx hb hdg (am_keep (st1 := .int (x &&& y) :: st') h hR hlocs hs hL kk)
  | ishr =>
    obtain ⟨x, y, st', e1, h⟩ := am_ii_inv hn
    have e1 : st = .int y :: .int x :: st' := e1
    subst e1
    have hdg : decode (am_b M) pc = .ok (.ishr, 1) := of_decide_eq_true hchk
    exact lv_ishr hx hb hdg (am_keep (st1 := .int (x >>> (y &&& 31)) :: st') h hR hlocs hs hL kk)
  | iushr =>
    obtain ⟨x, y, st', e1, h⟩ := am_ii_inv hn
    have e1 : st = .int y :: .int x :: st' := e1
    subst e1
    have hdg : decode (am_b M) pc = .ok (.iushr, 1) := of_decide_eq_true hchk
    exact lv_iushr hx hb hdg rfl (am_keep (st1 := .int _ :: st') h hR hlocs hs hL kk)
  | irem =>
    obtain ⟨x, y, st', e1, hy, h⟩ := am_irem_inv hn
    have e1 : st = .int y :: .int x :: st' := e1
    subst e1
    have hdg : decode (am_b M) pc = .ok (.irem, 1) := of_decide_eq_true hchk
    exact lv_irem hx hb hdg hy (am_keep (st1 := .int (x - x / y * y) :: st') h hR hlocs hs hL kk)
  | ineg =>
    obtain ⟨x, st', e1, h⟩ := am_i1_inv hn
    have e1 : st = .int x :: st' := e1
    subst e1
    have hdg : decode (am_b M) pc = .ok (.ineg, 1) := of_decide_eq_true hchk
    exact lv_ineg hx hb hdg (am_keep (st1 := .int (-x) :: st') h hR hlocs hs hL kk)
  | i2l =>
    obtain ⟨x, st', e1, h⟩ := am_i1_inv hn
    have e1 : st = .int x :: st' := e1
    subst e1
    have hdg : decode (am_b M) pc = .ok (.i2l, 1) := of_decide_eq_true hchk
    exact lv_i2l hx hb hdg rfl (am_keep (st1 := .long x.toInt64 :: st') h hR hlocs hs hL kk)
  | l2i =>
    obtain ⟨x, st', e1, h⟩ := am_l1_inv hn
    have e1 : st = .long x :: st' := e1
    subst e1
    have hdg : decode (am_b M) pc = .ok (.l2i, 1) := of_decide_eq_true hchk
    exact lv_l2i hx hb hdg rfl (am_keep (st1 := .int x.toInt32 :: st') h hR hlocs hs hL kk)
  | land =>
    obtain ⟨x, y, st', e1, h⟩ := am_ll_inv hn
    have e1 : st = .long y :: .long x :: st' := e1
    subst e1
    have hdg : decode (am_b M) pc = .ok (.land, 1) := of_decide_eq_true hchk
    exact lv_land hx hb hdg (am_keep (st1 := .long (x &&& y) :: st') h hR hlocs hs hL kk)
  | lor =>
    obtain ⟨x, y, st', e1, h⟩ := am_ll_inv hn
    have e1 : st = .long y :: .long x :: st' := e1
    subst e1
    have hdg : decode (am_b M) pc = .ok (.lor, 1) := of_decide_eq_true hchk
    exact lv_lor hx hb hdg (am_keep (st1 := .long (x ||| y) :: st') h hR hlocs hs hL kk)
  | lcmp =>
    obtain ⟨x, y, st', e1, h⟩ := am_ll_inv hn
    have e1 : st = .long y :: .long x :: st' := e1
    subst e1
    have hdg : decode (am_b M) pc = .ok (.lcmp, 1) := of_decide_eq_true hchk
    exact W.lcmp hx hb hdg (am_keep (st1 := .int (lg_cmp x y) :: st') h hR hlocs hs hL kk)
  | lshl =>
    obtain ⟨x, y, st', e1, h⟩ := am_li_inv hn
    have e1 : st = .int y :: .long x :: st' := e1
    subst e1
    have hdg : decode (am_b M) pc = .ok (.lshl, 1) := of_decide_eq_true hchk
    exact lv_lshl hx hb hdg rfl (am_keep (st1 := .long _ :: st') h hR hlocs hs hL kk)
  | lshr =>
    obtain ⟨x, y, st', e1, h⟩ := am_li_inv hn
    have e1 : st = .int y :: .long x :: st' := e1
    subst e1
    have hdg : decode (am_b M) pc = .ok (.lshr, 1) := of_decide_eq_true hchk
    exact lv_lshr hx hb hdg rfl (am_keep (st1 := .long _ :: st') h hR hlocs hs hL kk)
  | lushr =>
    obtain ⟨x, y, st', e1, h⟩ := am_li_inv hn
    have e1 : st = .int y :: .long x :: st' := e1
    subst e1
    have hdg : decode (am_b M) pc = .ok (.lushr, 1) := of_decide_eq_true hchk
    exact lv_lushr hx hb hdg rfl (am_keep (st1 := .long _ :: st') h hR hlocs hs hL kk)
  | dup =>
    obtain ⟨v, st', e1, hv, h⟩ := am_dup_inv hn
    have e1 : st = v :: st' := e1
    subst e1
    have hdg : decode (am_b M) pc = .ok (.dup, 1) := of_decide_eq_true hchk
    exact lv_dup hx hb hdg ((am_rv_cat ρ v).trans hv) (am_keep (st1 := v :: v :: st') h hR hlocs hs hL kk)
  | dup2 =>
    have hdg : decode (am_b M) pc = .ok (.dup2, 1) := of_decide_eq_true hchk
    rcases am_dup2_inv hn with ⟨v, st', e1, hv, h⟩ | ⟨v, u, st', e1, hv, hu, h⟩
    · have e1 : st = v :: st' := e1
      subst e1
      exact lv_dup2_2 hx hb hdg ((am_rv_cat ρ v).trans hv) (am_keep (st1 := v :: v :: st') h hR hlocs hs hL kk)
    · have e1 : st = v :: u :: st' := e1
      subst e1
      exact lv_dup2_11 hx hb hdg ((am_rv_cat ρ v).trans hv) ((am_rv_cat ρ u).trans hu) (am_keep (st1 := v :: u :: v :: u :: st') h hR hlocs hs hL kk)
  | pop =>
    obtain ⟨v, st', e1, hv, h⟩ := am_pop_inv hn
    have e1 : st = v :: st' := e1
    subst e1
    have hdg : decode (am_b M) pc = .ok (.pop, 1) := of_decide_eq_true hchk
    exact lv_pop hx hb hdg ((am_rv_cat ρ v).trans hv) (am_keep (st1 := st') h hR hlocs hs hL kk)
  | pop2 =>
    obtain ⟨v, st', e1, hv, h⟩ := am_pop2_inv hn
    have e1 : st = v :: st' := e1
    subst e1
    have hdg : decode (am_b M) pc = .ok (.pop2, 1) := of_decide_eq_true hchk
    exact lv_pop2_2 hx hb hdg ((am_rv_cat ρ v).trans hv) (am_keep (st1 := st') h hR hlocs hs hL kk)
  | goto t =>
    have h : (fr1, w1) = ((t.toNat, lv, st), w) := (Option.some.inj hn).symm
    have h1 : (am_dc M pc (.goto (am_tg pc t)) 3 && decide (0 ≤ t)) = true := hchk
    simp only [Bool.and_eq_true, decide_eq_true_eq, am_dc] at h1
    obtain ⟨hdg, ht0⟩ := h1
    have ht : (pc : Int) + am_tg pc t = (t.toNat : Int) := by unfold am_tg; omega
    exact lv_goto hx hb hdg ht (am_keep h hR hlocs hs hL kk)
  | ifCond cd t =>
    obtain ⟨x, st', e1, h⟩ := am_if_inv hn
    have e1 : st = .int x :: st' := e1
    subst e1
    have h1 : (am_dc M pc (.ifCond cd (am_tg pc t)) 3 && decide (0 ≤ t)) = true := hchk
    simp only [Bool.and_eq_true, decide_eq_true_eq, am_dc] at h1
    obtain ⟨hdg, ht0⟩ := h1
    have ht : (pc : Int) + am_tg pc t = (t.toNat : Int) := by unfold am_tg; omega
    have hbr : ∀ b : Bool, am_holds cd x 0 = b → W p l e R s m args below meth c H locs cells slots Q (F0 m (if b then t.toNat else pc + 3) ls (st'.map (am_rv ρ))) := fun b hbb => by
      have h2 : (fr1, w1) = ((if b then t.toNat else pc + 3, lv, st'), w) := by rw [← hbb]; exact h
      exact am_keep h2 hR hlocs hs hL kk
    cases cd with
    | eq => exact lv_if_eq hx hb hdg ht (fun hc => hbr true (decide_eq_true hc)) (fun hc => hbr false (decide_eq_false hc))
    | ne => exact lv_if_ne hx hb hdg ht (fun hc => hbr true (decide_eq_true hc)) (fun hc => hbr false (decide_eq_false (fun h9 => h9 hc)))
    | lt => exact lv_if_lt hx hb hdg ht (fun hc => hbr true (decide_eq_true hc)) (fun hc => hbr false (decide_eq_false hc))
    | ge => exact lv_if_ge hx hb hdg ht (fun hc => hbr true (decide_eq_true hc)) (fun hc => hbr false (decide_eq_false hc))
    | gt => exact lv_if_gt hx hb hdg ht (fun hc => hbr true (decide_eq_true hc)) (fun hc => hbr false (decide_eq_false hc))
    | le => exact lv_if_le hx hb hdg ht (fun hc => hbr true (decide_eq_true hc)) (fun hc => hbr false (decide_eq_false hc))
  | if_icmp cd t =>
    obtain ⟨x, y, st', e1, h⟩ := am_icmp_inv hn
    have e1 : st = .int y :: .int x :: st' := e1
    subst e1
    have h1 : (am_dc M pc (.if_icmp cd (am_tg pc t)) 3 && decide (0 ≤ t)) = true := hchk
    simp only [Bool.and_eq_true, decide_eq_true_eq, am_dc] at h1
    obtain ⟨hdg, ht0⟩ := h1
    have ht : (pc : Int) + am_tg pc t = (t.toNat : Int) := by unfold am_tg; omega
    have hbr : ∀ b : Bool, am_holds cd x y = b → W p l e R s m args below meth c H locs cells slots Q (F0 m (if b then t.toNat else pc + 3) ls (st'.map (am_rv ρ))) := fun b hbb => by
      have h2 : (fr1, w1) = ((if b then t.toNat else pc + 3, lv, st'), w) := by rw [← hbb]; exact h
      exact am_keep h2 hR hlocs hs hL kk
    cases cd with
    | eq => exact lv_icmp_eq hx hb hdg ht (fun hc => hbr true (decide_eq_true hc)) (fun hc => hbr false (decide_eq_false hc))
    | ne => exact lv_icmp_ne hx hb hdg ht (fun hc => hbr true (decide_eq_true hc)) (fun hc => hbr false (decide_eq_false (fun h9 => h9 hc)))
    | lt => exact lv_icmp_lt hx hb hdg ht (fun hc => hbr true (decide_eq_true hc)) (fun hc => hbr false (decide_eq_false hc))
    | ge => exact lv_icmp_ge hx hb hdg ht (fun hc => hbr true (decide_eq_true hc)) (fun hc => hbr false (decide_eq_false hc))
    | gt => exact lv_icmp_gt hx hb hdg ht (fun hc => hbr true (decide_eq_true hc)) (fun hc => hbr false (decide_eq_false hc))
    | le => exact lv_icmp_le hx hb hdg ht (fun hc => hbr true (decide_eq_true hc)) (fun hc => hbr false (decide_eq_false hc))
  | ifnonnull t =>
    have h1 : (am_dc M pc (.ifnonnull (am_tg pc t)) 3 && decide (0 ≤ t)) = true := hchk
    simp only [Bool.and_eq_true, decide_eq_true_eq, am_dc] at h1
    obtain ⟨hdg, ht0⟩ := h1
    have ht : (pc : Int) + am_tg pc t = (t.toNat : Int) := by unfold am_tg; omega
    rcases am_ifnn_inv hn with ⟨a, st', e1, h⟩ | ⟨st', e1, h⟩
    · have e1 : st = .ref a :: st' := e1
      subst e1
      exact lv_ifnonnull hx hb hdg ht (am_keep h hR hlocs hs hL kk)
    · have e1 : st = .null :: st' := e1
      subst e1
      exact lv_ifnonnullN hx hb hdg (am_keep h hR hlocs hs hL kk)
  | tableswitch d lo hi ts =>
    obtain ⟨x, st', e1, h⟩ := am_table_inv hn
    have e1 : st = .int x :: st' := e1
    subst e1
    have h1 : (am_dc M pc (.tableswitch (am_tg pc d) lo hi (ts.toList.map (am_tg pc)).toArray) len && decide (0 ≤ d) && ts.toList.all (fun t => decide (0 ≤ t)) && decide (lo ≤ hi ∧ ((ts.toList.length : Nat) : Int) = hi - lo + 1)) = true := hchk
    simp only [Bool.and_eq_true, decide_eq_true_eq, am_dc] at h1
    obtain ⟨⟨⟨hdg, hd0⟩, hall⟩, hlh, hln⟩ := h1
    show W p l e R s m args below meth c H locs cells slots Q (F0 m pc ls (.int x :: st'.map (am_rv ρ)))
    by_cases hx1 : x.toInt < lo ∨ hi < x.toInt
    · rw [if_pos hx1] at h
      exact lv_tableOut hx hb hdg hx1 (tgt := d.toNat) (by unfold am_tg; omega) (am_keep h hR hlocs hs hL kk)
    · rw [if_neg hx1] at h
      have hlt : (x.toInt - lo).toNat < ts.toList.length := by omega
      have hg0 : ts.toList[(x.toInt - lo).toNat]? = some (ts.toList.getD (x.toInt - lo).toNat 0) := by
        rw [List.getD_eq_getElem?_getD, List.getElem?_eq_getElem hlt]; rfl
      have h0 : 0 ≤ ts.toList.getD (x.toInt - lo).toNat 0 := of_decide_eq_true (List.all_eq_true.mp hall _ (List.mem_of_getElem? hg0))
      refine lv_tableIn hx hb hdg (fun q => hx1 (Or.inl q)) (fun q => hx1 (Or.inr q)) (off := am_tg pc (ts.toList.getD (x.toInt - lo).toNat 0)) ?_ (tgt := (ts.toList.getD (x.toInt - lo).toNat 0).toNat) (by unfold am_tg; omega) (am_keep h hR hlocs hs hL kk)
      rw [List.getElem?_toArray, List.getElem?_map, hg0]
      rfl
  | getfield q =>
    obtain ⟨a, st', e1, hcase⟩ := am_getf_inv hn
    have e1 : st = .ref a :: st' := e1
    subst e1
    have h1 : (am_dc M pc (.getfield ix) 3 && (if 50000 ≤ q then decide (am_own M = "ListDesk$Reader" ∧ ((q = 50000 ∧ ix = 147) ∨ (q = 50001 ∧ ix = 248) ∨ (q = 50002 ∧ ix = 251))) else am_FL.any (fun e => e.1 == am_own M && e.2.1 == ix && e.2.2.1 == q))) = true := hchk
    simp only [Bool.and_eq_true, am_dc, decide_eq_true_eq] at h1
    obtain ⟨hdg, h1⟩ := h1
    show W p l e R s m args below meth c H locs cells slots Q (F0 m pc ls (.ref (ρ a) :: st'.map (am_rv ρ)))
    rcases hcase with ⟨h5, ha1, ha2, hc⟩ | ⟨h5, fs, v, hw, hv, h⟩
    · rw [if_pos h5] at h1
      obtain ⟨ho, h2⟩ := of_decide_eq_true h1
      rw [ho] at hown
      obtain ⟨j, rfl⟩ : ∃ j : Nat, a = 1000 + j := ⟨a - 1000, by omega⟩
      have hj : j < 19 := by omega
      obtain ⟨-, -, o1, o2, o3⟩ := hU.2.2.2.2.2.1 j hj
      have hN := hU.2.1
      rcases h2 with ⟨rfl, rfl⟩ | ⟨rfl, rfl⟩ | ⟨rfl, rfl⟩
      · rcases hc with ⟨-, h⟩ | ⟨hq, -⟩ | ⟨hq, -⟩
        · rw [show 1000 + j + 100 = 1100 + j by omega] at h
          obtain ⟨cf, k1, fi, f, cell, g1, g2, g3, g4, g5, g6⟩ := o3.kept (fun q h3 h4 => hR.2.2.2.2 q (Nat.not_le.mp h4))
          exact va_Wgetf hx hb hown (va_Nw.use rfl (hN _ _ _ _ _ am_nest2)) g1 g2 g3 g4 g5 rfl rfl hdg (am_keep (st1 := .ref (1100 + j) :: st') h hR hlocs hs hL kk)
        · exact absurd hq (by decide)
        · exact absurd rfl hq
      · rcases hc with ⟨hq, -⟩ | ⟨-, h⟩ | ⟨-, hq, -⟩
        · exact absurd hq (by decide)
        · rw [show 1000 + j - 1000 = j by omega] at h
          obtain ⟨cf, k1, fi, f, cell, g1, g2, g3, g4, g5, g6⟩ := o1.kept (fun q h3 h4 => hR.2.2.2.2 q (Nat.not_le.mp h4))
          exact va_Wgetf hx hb hown (va_Nw.use rfl (hN _ _ _ _ _ am_nest3)) g1 g2 g3 g4 g5 rfl rfl hdg (am_keep (st1 := .int (am_opn.getD j 0) :: st') h hR hlocs hs hL kk)
        · exact absurd rfl hq
      · rcases hc with ⟨hq, -⟩ | ⟨hq, -⟩ | ⟨-, -, h⟩
        · exact absurd hq (by decide)
        · exact absurd hq (by decide)
        · rw [show 1000 + j - 1000 = j by omega] at h
          obtain ⟨cf, k1, fi, f, cell, g1, g2, g3, g4, g5, g6⟩ := o2.kept (fun q h3 h4 => hR.2.2.2.2 q (Nat.not_le.mp h4))
          exact va_Wgetf hx hb hown (va_Nw.use rfl (hN _ _ _ _ _ am_nest4)) g1 g2 g3 g4 g5 rfl rfl hdg (am_keep (st1 := .int (am_ord.getD j 0) :: st') h hR hlocs hs hL kk)
    · rw [if_neg h5] at h1
      obtain ⟨r, hr, hk, hlk⟩ := am_FL_get h1
      obtain ⟨r', hr', hin, hty, hnm, hN⟩ := am_cls _ (am_cls_lt hr)
      cases Option.some.inj (hr.symm.trans hr')
      have he := am_ws_at (ρ := ρ) (cI := cI) (cJ := cJ) (cZ := cZ) hw
      have hv' : (fs.map (am_rv ρ))[q % 100]? = some (am_rv ρ v) := by rw [List.getElem?_map, hv]; rfl
      rcases hlk with ⟨-, hm⟩ | ⟨-, hm⟩
      · exact va_getN hx hb hts hin hown hK hR.1 a he hr (q % 100) hk (va_Nw.use rfl (hU.2.1 _ _ _ _ _ hm)) (fun _ h9 => h9) hv' hdg (am_keep (st1 := v :: st') h hR hlocs hs hL kk)
      · exact va_get hx hb hts hin hown hK hR.1 a he hr (q % 100) hk (hts _ hm) (fun _ h9 => h9) hv' hdg (am_keep (st1 := v :: st') h hR hlocs hs hL kk)
  | putfield q =>
    obtain ⟨v, a, st', fs, e1, hw, hkl, hfit, h⟩ := am_putf_inv hn
    have e1 : st = v :: .ref a :: st' := e1
    subst e1
    have h1 : (am_dc M pc (.putfield ix) 3 && am_FL.any (fun e => e.1 == am_own M && e.2.1 == ix && e.2.2.1 == q) && (match vwCl[q / 100 % 100]? with
      | some r => if q / 10000 = 2 then (r.2.1 (q % 100)).2.2.2 && decide ((r.2.1 (q % 100)).1 = am_own M ∧ (am_y M).name = "<init>") else !(r.2.1 (q % 100)).2.2.2
      | none => false)) = true := hchk
    simp only [Bool.and_eq_true, am_dc, decide_eq_true_eq] at h1
    obtain ⟨⟨hdg, h1⟩, h2⟩ := h1
    obtain ⟨r, hr, hk, hlk⟩ := am_FL_get h1
    obtain ⟨r', hr', hin, hty, hnm, hN⟩ := am_cls _ (am_cls_lt hr)
    cases Option.some.inj (hr.symm.trans hr')
    rw [hr] at h2
    have h2 : (if q / 10000 = 2 then (r.2.1 (q % 100)).2.2.2 && decide ((r.2.1 (q % 100)).1 = am_own M ∧ (am_y M).name = "<init>") else !(r.2.1 (q % 100)).2.2.2) = true := h2
    have he := am_ws_at (ρ := ρ) (cI := cI) (cJ := cJ) (cZ := cZ) hw
    obtain ⟨hn1, hf1⟩ := am_fit_ok (ρ := ρ) hfit
    refine am_wp hx hb hts hin (am_ty (q / 100 % 100)) hty hnm hown hK hR.1 hD hSb a he hr (q % 100) hk ?_ hn1 hf1 (by rw [List.length_map]; exact hkl) hdg (fun H1 locs1 hz hP1 hS1 => ?_)
    · by_cases h3 : q / 10000 = 2
      · rw [if_pos h3] at h2
        simp only [Bool.and_eq_true, decide_eq_true_eq] at h2
        rcases hlk with ⟨h4, -⟩ | ⟨-, hm⟩
        · omega
        · exact Or.inr (Or.inr ⟨h2.1, hini h2.2.2, h2.2.1, hts _ hm⟩)
      · rw [if_neg h3] at h2
        have h2 : (r.2.1 (q % 100)).2.2.2 = false := by simpa using h2
        rcases hlk with ⟨-, hm⟩ | ⟨-, hm⟩
        · exact Or.inr (Or.inl ⟨h2, va_Nw.use rfl (hU.2.1 _ _ _ _ _ hm)⟩)
        · exact Or.inl ⟨h2, hts _ hm⟩
    · refine am_wrote h hR hs hL hz ?_ hS1 kk
      show va_P D vwCl ((am_ws ρ cI cJ cZ w.1).set a (ρ a, .inr (q / 100 % 100, (fs.set (q % 100) v).map (am_rv ρ)))) H1
      rw [List.map_set]
      exact hP1
  | getstatic q =>
    have h1 : (am_dc M pc (.getstatic ix) 3 && decide (am_own M = "ListDesk$Reader" ∧ ((q = 0 ∧ ix = 165) ∨ (q = 1 ∧ ix = 169)))) = true := hchk
    simp only [Bool.and_eq_true, am_dc, decide_eq_true_eq] at h1
    obtain ⟨hdg, ho, h2⟩ := h1
    rw [ho] at hown
    have hkeep : ∀ q : Nat, q < Hb.size → ¬ am_A Hb q → s.heap[q]? = Hb[q]? := fun q h3 _ => hBs.2 q h3
    rcases h2 with ⟨rfl, rfl⟩ | ⟨rfl, rfl⟩
    · have h : (fr1, w1) = ((pc + 3, lv, .ref 1200 :: st), w) := (Option.some.inj hn).symm
      exact va_getsN hx hb (hU.2.2.2.2.1.1.kept hkeep) hSs hown (va_Nw.use rfl (hU.2.1 _ _ _ _ _ am_nest1)) (fun _ h9 => h9) hdg (am_keep (st1 := .ref 1200 :: st) h hR hlocs hs hL kk)
    · have h : (fr1, w1) = ((pc + 3, lv, .ref 1201 :: st), w) := (Option.some.inj hn).symm
      exact va_gets hx hb (hU.2.2.2.1.1.kept hkeep) hSs hown (hts _ am_gs1) (fun _ h9 => h9) hdg (am_keep (st1 := .ref 1201 :: st) h hR hlocs hs hL kk)
  | arraylength =>
    obtain ⟨a, st', n, e1, ha, h⟩ := am_alen_inv hn
    have e1 : st = .ref a :: st' := e1
    subst e1
    have hdg : decode (am_b M) pc = .ok (.arraylength, 1) := of_decide_eq_true hchk
    show W p l e R s m args below meth c H locs cells slots Q (F0 m pc ls (.ref (ρ a) :: st'.map (am_rv ρ)))
    have hkeep : ∀ q : Nat, q < Hb.size → ¬ am_A Hb q → s.heap[q]? = Hb[q]? := fun q h3 _ => hBs.2 q h3
    unfold am_len at ha
    split at ha
    · next h2 =>
      subst h2
      cases ha
      exact va_slen hx hb hU.2.2.1.1 hU.2.2.1.2 (Nat.not_le.mpr hU.2.2.1.2) hSb hdg (am_keep (st1 := .int (Int32.ofNat X.1) :: st') h hR hlocs hs hL kk)
    · split at ha
      · next h2 =>
        subst h2
        cases ha
        exact va_tlen hx hb (hU.2.2.2.2.1.2.kept hkeep) hSs rfl hdg (am_keep (st1 := .int (Int32.ofNat 19) :: st') h hR hlocs hs hL kk)
      · split at ha
        · next t n1 f hw =>
          cases ha
          have he := am_ws_at (ρ := ρ) (cI := cI) (cJ := cJ) (cZ := cZ) hw
          cases t with
          | zero => exact va_alen hx hb hK hR.1 a 0 he rfl rfl hdg (am_keep (st1 := .int (Int32.ofNat n) :: st') h hR hlocs hs hL kk)
          | succ t => exact va_alen hx hb hK hR.1 a 2 he rfl rfl hdg (am_keep (st1 := .int (Int32.ofNat n) :: st') h hR hlocs hs hL kk)
        · next n1 f hw =>
          cases ha
          have he := am_ws_at (ρ := ρ) (cI := cI) (cJ := cJ) (cZ := cZ) hw
          exact va_alen hx hb hK hR.1 a 1 he rfl rfl hdg (am_keep (st1 := .int (Int32.ofNat n) :: st') h hR hlocs hs hL kk)
        · cases ha
  | iaload =>
    obtain ⟨i, a, st', n, f, e1, ha, hi, h⟩ := am_iald_inv hn
    have e1 : st = .int i :: .ref a :: st' := e1
    subst e1
    have hdg : decode (am_b M) pc = .ok (.iaload, 1) := of_decide_eq_true hchk
    show W p l e R s m args below meth c H locs cells slots Q (F0 m pc ls (.int i :: .ref (ρ a) :: st'.map (am_rv ρ)))
    have hkeep : ∀ q : Nat, q < Hb.size → ¬ am_A Hb q → s.heap[q]? = Hb[q]? := fun q h3 _ => hBs.2 q h3
    unfold am_ai at ha
    split at ha
    · next h2 =>
      subst h2
      cases ha
      exact va_sld hx hb hU.2.2.1.1 hU.2.2.1.2 (Nat.not_le.mpr hU.2.2.1.2) hSb hi hdg (am_keep (st1 := .int (f i.toNatClampNeg) :: st') h hR hlocs hs hL kk)
    · split at ha
      · next h2 =>
        subst h2
        cases ha
        exact va_ti hx hb (hU.2.2.2.1.2.kept hkeep) hSs hi rfl hdg (am_keep (st1 := .int (am_sw.getD i.toNatClampNeg 0) :: st') h hR hlocs hs hL kk)
      · split at ha
        · next n1 f1 hw =>
          cases ha
          exact va_iald hx hb hK hR.1 a 0 (am_ws_at hw) rfl hi hdg (am_keep (st1 := .int (f i.toNatClampNeg) :: st') h hR hlocs hs hL kk)
        · cases ha
  | laload =>
    obtain ⟨i, a, st', n, f, e1, hw, hi, h⟩ := am_lald_inv hn
    have e1 : st = .int i :: .ref a :: st' := e1
    subst e1
    have hdg : decode (am_b M) pc = .ok (.laload, 1) := of_decide_eq_true hchk
    exact va_lald hx hb hK hR.1 a 1 (am_ws_at hw) rfl hi hdg (am_keep (st1 := .long (f i.toNatClampNeg) :: st') h hR hlocs hs hL kk)
  | baload =>
    obtain ⟨i, a, st', n, f, e1, hw, hi, h⟩ := am_zald_inv hn
    have e1 : st = .int i :: .ref a :: st' := e1
    subst e1
    have hdg : decode (am_b M) pc = .ok (.baload, 1) := of_decide_eq_true hchk
    exact va_zald hx hb hK hR.1 a 2 (am_ws_at hw) rfl hi hdg (am_keep (st1 := .int (f i.toNatClampNeg) :: st') h hR hlocs hs hL kk)
  | aaload =>
    obtain ⟨i, st', e1, hi, h⟩ := am_aald_inv hn
    have e1 : st = .int i :: .ref 1200 :: st' := e1
    subst e1
    have hdg : decode (am_b M) pc = .ok (.aaload, 1) := of_decide_eq_true hchk
    have hkeep : ∀ q : Nat, q < Hb.size → ¬ am_A Hb q → H[q]? = Hb[q]? := fun q h3 _ => hR.2.2.2.2 q h3
    obtain ⟨cell, g1, g2, g3, g4, g5, g6, -⟩ := hU.2.2.2.2.1.2.kept hkeep
    have hlt : i.toNatClampNeg < 19 := Nat.not_le.mp fun q => hi (Or.inr q)
    exact W.aald hx hb g1 g2 rfl g3 (fun q => hi (q.imp id (fun z => by omega))) (g6 _ hlt) rfl rfl hdg (am_keep (st1 := .ref (1000 + i.toNatClampNeg) :: st') h hR hlocs hs hL kk)
  | iastore =>
    obtain ⟨x, i, a, st', n, f, e1, hw, hi, h⟩ := am_iast_inv hn
    have e1 : st = .int x :: .int i :: .ref a :: st' := e1
    subst e1
    have hdg : decode (am_b M) pc = .ok (.iastore, 1) := of_decide_eq_true hchk
    exact am_wi hx hb hK hR.1 hD hSb a 0 (am_ws_at hw) rfl hi hdg (fun H1 locs1 hz hP1 hS1 => am_wrote h hR hs hL hz hP1 hS1 kk)
  | lastore =>
    obtain ⟨x, i, a, st', n, f, e1, hw, hi, h⟩ := am_last_inv hn
    have e1 : st = .long x :: .int i :: .ref a :: st' := e1
    subst e1
    have hdg : decode (am_b M) pc = .ok (.lastore, 1) := of_decide_eq_true hchk
    exact am_wl hx hb hK hR.1 hD hSb a 1 (am_ws_at hw) rfl hi hdg (fun H1 locs1 hz hP1 hS1 => am_wrote h hR hs hL hz hP1 hS1 kk)
  | bastore =>
    obtain ⟨x, i, a, st', n, f, e1, hw, hi, h⟩ := am_zast_inv hn
    have e1 : st = .int x :: .int i :: .ref a :: st' := e1
    subst e1
    have hdg : decode (am_b M) pc = .ok (.bastore, 1) := of_decide_eq_true hchk
    exact am_wz hx hb hK hR.1 hD hSb a 2 (am_ws_at hw) rfl hi hdg (fun H1 locs1 hz hP1 hS1 => am_wrote h hR hs hL hz hP1 hS1 kk)
  | new q =>
    obtain ⟨hq, hx0, hlen, h⟩ := am_newo_inv hn
    have h1 : (am_dc M pc (.new ix) 3 && am_NW.any (fun e => e.1 == am_own M && e.2.1 == ix && e.2.2.1 == q)) = true := by
      have h2 := hchk
      simp only [am_chk] at h2
      rwa [if_neg (by omega)] at h2
    simp only [Bool.and_eq_true, am_dc, decide_eq_true_eq] at h1
    obtain ⟨hdg, h1⟩ := h1
    obtain ⟨e1, he1, he2⟩ := List.any_eq_true.mp h1
    simp only [Bool.and_eq_true, beq_iff_eq] at he2
    obtain ⟨⟨h7, h8⟩, h9⟩ := he2
    have h10 := List.all_eq_true.mp am_NW_ok e1 he1
    obtain ⟨r, hr, hin, hty, hnm, hN⟩ := am_cls q hq
    unfold am_nww at h10
    rw [h7, h8, h9, hr] at h10
    simp only [Bool.and_eq_true] at h10
    obtain ⟨⟨⟨w1', w2'⟩, w3'⟩, -⟩ := h10
    have hKn := hK.1 q _ hr
    have hsz := hR.2.2.1 hx0
    have hcn : am_cN w1 - am_cN w = 1 ∧ am_sN w1 - am_sN w = r.2.2 := by
      cases h
      rw [hN]
      constructor
      · simp only [am_cN, List.length_append, List.length_cons, List.length_nil]; omega
      · simp only [am_sN]; omega
    rw [hcn.1] at hcc kk
    rw [hcn.2] at hcs kk
    refine W.newcK hx hb hown (hts _ (am_wd_in w1')) (hts _ (am_wd_in w2')) (hts _ (am_wd_in w3')) rfl hdg hcc hcs hKn.2.1 hsz fun H1 kC hkC e1 z1 o1 => ?_
    cases h
    have hρl : ρ w.1.length = Hb.size + w.1.length := hρ _ hlen
    have hk1 : ∀ (k : Nat) (x : Nat × va_E), (am_ws ρ cI cJ cZ w.1)[k]? = some x → H1[x.1]? = H[x.1]? := fun k x hx => o1 x.1 (by rw [← hsz]; exact (hR.1 k x hx).lt)
    have hBa : am_Ba Hb H1 := ⟨by rw [z1]; omega, fun q hq => (o1 q (by omega)).trans (hR.2.2.2.2 q hq)⟩
    have h2 := kk H1 locs ls ⟨?_, by simp only [List.length_append, List.length_cons, List.length_nil]; omega, fun _ => by rw [z1]; simp only [List.length_append, List.length_cons, List.length_nil]; omega, hBa⟩ hL hlocs (by rw [z1]; omega)
    · have h3 : am_rv ρ (.ref w.1.length) = .ref (Hb.size + w.1.length) := by show Value.ref (ρ w.1.length) = _; rw [hρl]
      simp only [List.map_cons, h3] at h2
      exact h2
    · rw [am_ws_push]
      refine (hR.1.kept hk1).app (fun k x hx => ?_)
      have hz : k < 1 := (List.getElem?_eq_some_iff.mp hx).1
      rw [show k = 0 by omega] at hx
      cases hx
      rw [← hρl] at e1
      exact ⟨_, hr, (u_born (am_ty q) hts hin hKn hkC e1 hty).to (fun j hj => am_dvs (by rw [← hN]; exact hj))⟩
  | newarray t =>
    obtain ⟨n, st', cl1, e1, hn0, hnb, hx0, hlen, h, ht⟩ := am_newa_inv hn
    have e1 : st = .int n :: st' := e1
    subst e1
    have hdg : decode (am_b M) pc = .ok (.newarray t, 2) := of_decide_eq_true hchk
    have hsz := hR.2.2.1 hx0
    have hρl : ρ w.1.length = Hb.size + w.1.length := hρ _ hlen
    have hcn : am_cN w1 - am_cN w = 1 ∧ am_sN w1 - am_sN w = n.toNatClampNeg := by
      cases h
      constructor
      · simp only [am_cN, List.length_append, List.length_cons, List.length_nil]; omega
      · simp only [am_sN]; omega
    rw [hcn.1] at hcc kk
    rw [hcn.2] at hcs kk
    cases h
    have hgo : ∀ (ty : FieldType) (cA0 : ClassId), newarray.typeOf t = ty → Cond.arrayClass ty ∈ amTb → componentBytes ty ≤ 8 → (∃ k : Nat, [(cI, FieldType.int), (cJ, .long), (cZ, .boolean)][k]? = some (cA0, ty)) → (va_RA s cA0 ty → s.vm.findClass ("[" ++ ty.toString) = some cA0) → (∀ Hx : Heap, Hx[Hb.size + w.1.length]? = some (arrV cA0 n.toNatClampNeg (fun _ => defaultValue ty)) → va_at D vwCl (Hb.size + w.1.length, am_E ρ cI cJ cZ cl1) Hx) →
        W p l e R s m args below meth c H locs cells slots Q (F0 m pc ls ((Value.int n :: st').map (am_rv ρ))) := by
      intro ty cA0 hty hac hcb hk0 hra hat
      subst hty
      refine va_newaK hx hb (hts _ hac) rfl hdg (n := n) (rest := st'.map (am_rv ρ)) rfl hn0 rfl (by have := Nat.mul_le_mul hnb hcb; omega) hcc hcs hsz fun H1 cA e1 z1 o1 hAr hNm => ?_
      obtain ⟨k0, hk0⟩ := hk0
      have hcA : cA = cA0 := Option.some.inj (hNm.symm.trans (hra (hK.2 k0 _ hk0).2))
      subst hcA
      have hk1 : ∀ (k : Nat) (x : Nat × va_E), (am_ws ρ cI cJ cZ w.1)[k]? = some x → H1[x.1]? = H[x.1]? := fun k x hx => o1 x.1 (by rw [← hsz]; exact (hR.1 k x hx).lt)
      have hBa : am_Ba Hb H1 := ⟨by rw [z1]; omega, fun q hq => (o1 q (by omega)).trans (hR.2.2.2.2 q hq)⟩
      have h2 := kk H1 locs ls ⟨?_, by simp only [List.length_append, List.length_cons, List.length_nil]; omega, fun _ => by rw [z1]; simp only [List.length_append, List.length_cons, List.length_nil]; omega, hBa⟩ hL hlocs (by rw [z1]; omega)
      · have h3 : am_rv ρ (.ref w.1.length) = .ref (Hb.size + w.1.length) := by show Value.ref (ρ w.1.length) = _; rw [hρl]
        simp only [List.map_cons, h3] at h2
        exact h2
      · rw [am_ws_push]
        refine (hR.1.kept hk1).app (fun k x hx => ?_)
        have hz : k < 1 := (List.getElem?_eq_some_iff.mp hx).1
        rw [show k = 0 by omega] at hx
        cases hx
        rw [hρl]
        exact hat H1 e1
    rcases ht with ⟨rfl, rfl⟩ | ⟨rfl, rfl⟩ | ⟨rfl, rfl⟩
    · exact hgo .int cI rfl am_ac_int (by decide) ⟨0, rfl⟩ (fun h => h) (fun Hx hh => hh)
    · exact hgo .boolean cZ rfl am_ac_boolean (by decide) ⟨2, rfl⟩ (fun h => h) (fun Hx hh => hh)
    · exact hgo .long cJ rfl am_ac_long (by decide) ⟨1, rfl⟩ (fun h => h) (fun Hx hh => hh)
  | invokevirtual j =>
    have hn1 : (if 900 ≤ j then am_bi j (pc, lv, st) w else none) = some (fr1, w1) := hn
    split at hn1
    · next h9 => exact hbi j rfl h9
    · cases hn1
  | invokespecial j =>
    have hn1 : (if 900 ≤ j then am_oi j (pc, lv, st) w else none) = some (fr1, w1) := hn
    split at hn1
    · next h9 =>
      obtain ⟨a, st', e1, hq, hcat, h⟩ := am_oi_inv hn1
      have e1 : st = .ref a :: st' := e1
      subst e1
      have h1 : (am_dc M pc (.invokespecial ix) 3 && am_OB.any (fun e => e.1 == am_own M && e.2.1 == ix)) = true := by
        have h2 := hchk
        simp only [am_chk] at h2
        rwa [if_pos h9] at h2
      simp only [Bool.and_eq_true, am_dc, decide_eq_true_eq] at h1
      obtain ⟨hdg, h1⟩ := h1
      obtain ⟨e2, he1, he2⟩ := List.any_eq_true.mp h1
      simp only [Bool.and_eq_true, beq_iff_eq] at he2
      obtain ⟨h7, h8⟩ := he2
      have h10 := am_wd_in (List.all_eq_true.mp am_OB_ok e2 he1)
      rw [h7, h8] at h10
      have hc2 : ((st'.map (am_rv ρ)).map fun v => v.category).sum ≤ 8 := by
        rw [List.map_map]
        have : ((fun v : Value => v.category) ∘ am_rv ρ) = fun v => v.category := by funext v; exact am_rv_cat ρ v
        rw [this]; exact hcat
      have hr8 := lv_room (m := m) (pc := pc) (ls := ls) (rest := (Value.ref (ρ a) :: st'.map (am_rv ρ))) hc2
      refine W.objInit hx hb hown (hts _ h10) (hts _ am_ob1) (hts _ am_ob2) rfl (by rw [hml]; exact hL.1) rfl hdg (by omega) (by
        show 2 * (F0 m pc ls (Value.ref (ρ a) :: st'.map (am_rv ρ))).monitorRoom + ((st'.map (am_rv ρ)).map fun v => v.category).sum + 12 ≤ R.locals
        omega) ?_
      exact am_keep h hR hlocs hs hL kk
    · cases hn1
  | _ => exact absurd hn (by simp [am_next])

end PLAIN
