/-! a whole run of AM is a run of the JVM -/
theorem am_bi_w {q : Nat} {fr fr1 : amF} {w w1 : amW} (h : am_bi q fr w = some (fr1, w1)) : w1 = w := by
  unfold am_bi at h
  split at h
  · split at h
    · split at h
      · cases h; rfl
      · split at h
        · cases h; rfl
        · cases h
    · split at h
      · cases h; rfl
      · cases h
    · cases h
  · cases h
set_option maxHeartbeats 4000000 in
theorem am_next_mono {X : amX} {mL len : Nat} {ins : Instr} {fr fr1 : amF} {w w1 : amW} (h : am_next X mL ins len fr w = some (fr1, w1)) : am_cN w ≤ am_cN w1 ∧ am_sN w ≤ am_sN w1 := by
  cases ins with
  | aconst_null => cases h; exact ⟨Nat.le_refl _, Nat.le_refl _⟩
  | iconst n => cases h; exact ⟨Nat.le_refl _, Nat.le_refl _⟩
  | jsr_w n => cases h; exact ⟨Nat.le_refl _, Nat.le_refl _⟩
  | goto t => cases h; exact ⟨Nat.le_refl _, Nat.le_refl _⟩
  | ldc q =>
    have h1 : (if q = 1119 then am_push 2 (.ref 1119) fr w else none) = some (fr1, w1) := h
    split at h1
    · cases h1; exact ⟨Nat.le_refl _, Nat.le_refl _⟩
    · cases h1
  | iload i =>
    obtain ⟨x, e1, h⟩ := am_iload_inv h
    cases h; exact ⟨Nat.le_refl _, Nat.le_refl _⟩
  | lload i =>
    obtain ⟨x, e1, h⟩ := am_lload_inv h
    cases h; exact ⟨Nat.le_refl _, Nat.le_refl _⟩
  | aload i =>
    rcases am_aload_inv h with ⟨x, e1, h⟩ | ⟨e1, h⟩
    · cases h; exact ⟨Nat.le_refl _, Nat.le_refl _⟩
    · cases h; exact ⟨Nat.le_refl _, Nat.le_refl _⟩
  | istore i =>
    obtain ⟨x, st, e1, hi, h⟩ := am_istore_inv h
    cases h; exact ⟨Nat.le_refl _, Nat.le_refl _⟩
  | lstore i =>
    obtain ⟨x, st, e1, hi, h⟩ := am_lstore_inv h
    cases h; exact ⟨Nat.le_refl _, Nat.le_refl _⟩
  | astore i =>
    obtain ⟨v, st, hv, e1, hi, h⟩ := am_astore_inv h
    cases h; exact ⟨Nat.le_refl _, Nat.le_refl _⟩
  | iinc i n =>
    obtain ⟨x, e1, hi, h⟩ := am_iinc_inv h
    cases h; exact ⟨Nat.le_refl _, Nat.le_refl _⟩
  | iadd =>
    obtain ⟨x, y, st, e1, h⟩ := am_ii_inv h
    cases h; exact ⟨Nat.le_refl _, Nat.le_refl _⟩
  | isub =>
    obtain ⟨x, y, st, e1, h⟩ := am_ii_inv h
    cases h; exact ⟨Nat.le_refl _, Nat.le_refl _⟩
  | imul =>
    obtain ⟨x, y, st, e1, h⟩ := am_ii_inv h
    cases h; exact ⟨Nat.le_refl _, Nat.le_refl _⟩
  | iand =>
    obtain ⟨x, y, st, e1, h⟩ := am_ii_inv h
    cases h; exact ⟨Nat.le_refl _, Nat.le_refl _⟩
  | ishr =>
    obtain ⟨x, y, st, e1, h⟩ := am_ii_inv h
    cases h; exact ⟨Nat.le_refl _, Nat.le_refl _⟩
  | iushr =>
    obtain ⟨x, y, st, e1, h⟩ := am_ii_inv h
    cases h; exact ⟨Nat.le_refl _, Nat.le_refl _⟩
  | irem =>
    obtain ⟨x, y, st, e1, hy, h⟩ := am_irem_inv h
    cases h; exact ⟨Nat.le_refl _, Nat.le_refl _⟩
  | ineg =>
    obtain ⟨x, st, e1, h⟩ := am_i1_inv h
    cases h; exact ⟨Nat.le_refl _, Nat.le_refl _⟩
  | i2l =>
    obtain ⟨x, st, e1, h⟩ := am_i1_inv h
    cases h; exact ⟨Nat.le_refl _, Nat.le_refl _⟩
  | l2i =>
    obtain ⟨x, st, e1, h⟩ := am_l1_inv h
    cases h; exact ⟨Nat.le_refl _, Nat.le_refl _⟩
  | land =>
    obtain ⟨x, y, st, e1, h⟩ := am_ll_inv h
    cases h; exact ⟨Nat.le_refl _, Nat.le_refl _⟩
  | lor =>
    obtain ⟨x, y, st, e1, h⟩ := am_ll_inv h
    cases h; exact ⟨Nat.le_refl _, Nat.le_refl _⟩
  | lcmp =>
    obtain ⟨x, y, st, e1, h⟩ := am_ll_inv h
    cases h; exact ⟨Nat.le_refl _, Nat.le_refl _⟩
  | lshl =>
    obtain ⟨x, y, st, e1, h⟩ := am_li_inv h
    cases h; exact ⟨Nat.le_refl _, Nat.le_refl _⟩
  | lshr =>
    obtain ⟨x, y, st, e1, h⟩ := am_li_inv h
    cases h; exact ⟨Nat.le_refl _, Nat.le_refl _⟩
  | lushr =>
    obtain ⟨x, y, st, e1, h⟩ := am_li_inv h
    cases h; exact ⟨Nat.le_refl _, Nat.le_refl _⟩
  | dup =>
    obtain ⟨v, st, e1, hv, h⟩ := am_dup_inv h
    cases h; exact ⟨Nat.le_refl _, Nat.le_refl _⟩
  | pop =>
    obtain ⟨v, st, e1, hv, h⟩ := am_pop_inv h
    cases h; exact ⟨Nat.le_refl _, Nat.le_refl _⟩
  | pop2 =>
    obtain ⟨v, st, e1, hv, h⟩ := am_pop2_inv h
    cases h; exact ⟨Nat.le_refl _, Nat.le_refl _⟩
  | dup2 =>
    rcases am_dup2_inv h with ⟨v, st, e1, hv, h⟩ | ⟨v, u, st, e1, hv, hu, h⟩
    · cases h; exact ⟨Nat.le_refl _, Nat.le_refl _⟩
    · cases h; exact ⟨Nat.le_refl _, Nat.le_refl _⟩
  | ifCond c t =>
    obtain ⟨x, st, e1, h⟩ := am_if_inv h
    cases h; exact ⟨Nat.le_refl _, Nat.le_refl _⟩
  | if_icmp c t =>
    obtain ⟨x, y, st, e1, h⟩ := am_icmp_inv h
    cases h; exact ⟨Nat.le_refl _, Nat.le_refl _⟩
  | ifnonnull t =>
    rcases am_ifnn_inv h with ⟨a, st, e1, h⟩ | ⟨st, e1, h⟩
    · cases h; exact ⟨Nat.le_refl _, Nat.le_refl _⟩
    · cases h; exact ⟨Nat.le_refl _, Nat.le_refl _⟩
  | tableswitch d lo hi ts =>
    obtain ⟨x, st, e1, h⟩ := am_table_inv h
    cases h; exact ⟨Nat.le_refl _, Nat.le_refl _⟩
  | getfield q =>
    obtain ⟨a, st, e1, hc⟩ := am_getf_inv h
    rcases hc with ⟨-, -, -, ⟨-, h⟩ | ⟨-, h⟩ | ⟨-, -, h⟩⟩ | ⟨-, fs, v, -, -, h⟩
    · cases h; exact ⟨Nat.le_refl _, Nat.le_refl _⟩
    · cases h; exact ⟨Nat.le_refl _, Nat.le_refl _⟩
    · cases h; exact ⟨Nat.le_refl _, Nat.le_refl _⟩
    · cases h; exact ⟨Nat.le_refl _, Nat.le_refl _⟩
  | putfield q =>
    obtain ⟨v, a, st, fs, e1, hw, hk, hf, h⟩ := am_putf_inv h
    cases h; exact ⟨by simp [am_cN], Nat.le_refl _⟩
  | getstatic q =>
    have h1 : (if q = 0 then am_push 3 (.ref 1200) fr w else if q = 1 then am_push 3 (.ref 1201) fr w else none) = some (fr1, w1) := h
    split at h1
    · cases h1; exact ⟨Nat.le_refl _, Nat.le_refl _⟩
    · split at h1
      · cases h1; exact ⟨Nat.le_refl _, Nat.le_refl _⟩
      · cases h1
  | arraylength =>
    obtain ⟨a, st, n, e1, ha, h⟩ := am_alen_inv h
    cases h; exact ⟨Nat.le_refl _, Nat.le_refl _⟩
  | iaload =>
    obtain ⟨i, a, st, n, f, e1, ha, hi, h⟩ := am_iald_inv h
    cases h; exact ⟨Nat.le_refl _, Nat.le_refl _⟩
  | laload =>
    obtain ⟨i, a, st, n, f, e1, ha, hi, h⟩ := am_lald_inv h
    cases h; exact ⟨Nat.le_refl _, Nat.le_refl _⟩
  | baload =>
    obtain ⟨i, a, st, n, f, e1, ha, hi, h⟩ := am_zald_inv h
    cases h; exact ⟨Nat.le_refl _, Nat.le_refl _⟩
  | aaload =>
    obtain ⟨i, st, e1, hi, h⟩ := am_aald_inv h
    cases h; exact ⟨Nat.le_refl _, Nat.le_refl _⟩
  | iastore =>
    obtain ⟨x, i, a, st, n, f, e1, hw, hi, h⟩ := am_iast_inv h
    cases h; exact ⟨by simp [am_cN], Nat.le_refl _⟩
  | lastore =>
    obtain ⟨x, i, a, st, n, f, e1, hw, hi, h⟩ := am_last_inv h
    cases h; exact ⟨by simp [am_cN], Nat.le_refl _⟩
  | bastore =>
    obtain ⟨x, i, a, st, n, f, e1, hw, hi, h⟩ := am_zast_inv h
    cases h; exact ⟨by simp [am_cN], Nat.le_refl _⟩
  | new c =>
    obtain ⟨h1, h2, h3, h⟩ := am_newo_inv h
    cases h; constructor
    · simp only [am_cN, List.length_append, List.length_cons, List.length_nil]; omega
    · simp only [am_sN]; omega
  | newarray t =>
    obtain ⟨n, st, c, e1, h1, h2, h3, h4, h, ht⟩ := am_newa_inv h
    cases h; constructor
    · simp only [am_cN, List.length_append, List.length_cons, List.length_nil]; omega
    · simp only [am_sN]; omega
  | invokevirtual q =>
    have h1 : (if 900 ≤ q then am_bi q fr w else none) = some (fr1, w1) := h
    split at h1
    · rw [am_bi_w h1]; exact ⟨Nat.le_refl _, Nat.le_refl _⟩
    · cases h1
  | invokespecial q =>
    have h1 : (if 900 ≤ q then am_oi q fr w else none) = some (fr1, w1) := h
    split at h1
    · obtain ⟨a, st, e1, hq, hc, h⟩ := am_oi_inv h1
      cases h; exact ⟨Nat.le_refl _, Nat.le_refl _⟩
    · cases h1
  | _ => exact absurd h (by simp [am_next])

theorem am_MC_ok : (am_Ms.zip am_MC).all (fun q => q.2 == 99 || (vwCl[q.2]?.map (fun r => r.1)) == some (am_y q.1).cls) = true := by decide +kernel
theorem am_MC_len : am_MC.length = am_Ms.length := by decide +kernel
theorem am_MC_get {j : Nat} {M : amM} (h : am_M j = some M) : am_MC.getD j 99 = 99 ∨ ∃ r, vwCl[am_MC.getD j 99]? = some r ∧ r.1 = (am_y M).cls := by
  have h1 : am_Ms[j]? = some M := h
  have hj : j < am_Ms.length := (List.getElem?_eq_some_iff.mp h1).1
  have hj2 : j < am_MC.length := by rw [am_MC_len]; exact hj
  have h2 : (am_Ms.zip am_MC)[j]? = some (M, am_MC[j]) := by
    rw [List.getElem?_zip_eq_some]
    exact ⟨h1, List.getElem?_eq_getElem hj2⟩
  have h3 := List.all_eq_true.mp am_MC_ok _ (List.mem_of_getElem? h2)
  have h4 : am_MC.getD j 99 = am_MC[j] := by simp [List.getD, List.getElem?_eq_getElem hj2]
  rw [h4]
  simp only [Bool.or_eq_true, beq_iff_eq] at h3
  rcases h3 with h3 | h3
  · exact Or.inl h3
  · right
    cases hv : vwCl[am_MC[j]]? with
    | none => rw [hv] at h3; simp at h3
    | some r =>
      rw [hv] at h3
      exact ⟨r, rfl, by simpa using h3⟩
theorem am_chk_at {M : amM} (hM : M ∈ am_Ms) {pc len ix : Nat} {ins : Instr} (h : am_at M pc = some (ins, len, ix)) : am_chk M (pc, ins, len, ix) = true := by
  simp only [am_at, Option.map_eq_some_iff] at h
  obtain ⟨q, h1, h2⟩ := h
  have h3 := List.find?_some h1
  have h4 := List.mem_of_find?_eq_some h1
  have h5 : q.1 = pc := by simpa using h3
  have h6 : q = (pc, ins, len, ix) := by rw [← h5, ← h2]
  rw [← h6]
  exact List.all_eq_true.mp (am_chk_all M hM) q h4
/-- the words of a throw -/
def am_nms : List String := ["java/lang/RuntimeException", "java/lang/Exception"]
def am_tw (q : String × Nat × Nat × String × Nat × Nat) : List Cond := Cond.classLink q.1 q.2.1 (am_ex q.2.2.2.2.2) :: Cond.initialized (am_ex q.2.2.2.2.2) :: vx_atS q.1 q.2.2.2.2.1 (am_ex q.2.2.2.2.2) am_nms
/-- words about how exceptions are caught in the law -/
def am_cw : List Cond := [.castable (am_ex 0) (am_ex 0), .castable (am_ex 1) (am_ex 1), .castable (am_ex 2) (am_ex 2), .classLink "ListDeskLaw" 13 (am_ex 0), .classLink "ListDeskLaw" 15 (am_ex 1), .classLink "ListDeskLaw" 30 (am_ex 2)]
def am_V (Hb : Heap) (U : State) : Prop :=
  vx_Zq Bundle.tN "UNASSIGNED_STACK" Bundle.steD (am_A Hb) U Hb ∧ vx_Zq Bundle.tN "SUPPRESSED_SENTINEL" Bundle.listD (am_A Hb) U Hb ∧
  (∀ q ∈ am_TH, ∃ sa, vk_R q.1 q.2.2.1 q.2.2.2.1 sa U) ∧ (∀ q ∈ am_TH, ∀ w ∈ am_tw q, w.before #[] U = true) ∧ (∀ w ∈ am_cw, w.before #[] U = true) ∧ (∀ i j, i < 3 → j < 3 → i ≠ j → va_Nc (am_ex i) (am_ex j) U)
theorem am_tw_ok : am_TH.all (fun q => (am_tw q).all (fun w => w.keepsFace && w.onTables && vx_ot w) && Bundle.fit (am_ex q.2.2.2.2.2) && decide (q.2.2.2.2.2 < 3)) = true := by decide +kernel
theorem am_cw_ok : am_cw.all (fun w => w.keepsFace && w.onTables) = true := by decide +kernel
theorem am_face {w : Cond} {s U : State} (hW : s.WarmedH U.vm) (hk : w.keepsFace = true) (ht : w.onTables = true) (h : w.before #[] s = true) : w.before #[] U = true :=
  va_tabs ht (rfl : (s.setVm U.vm).vm = U.vm) (Cond.before_shiftedFace (State.Shifted.of_warmed hW) w hk h)
theorem am_tw_get {q : String × Nat × Nat × String × Nat × Nat} (hq : q ∈ am_TH) : (∀ w ∈ am_tw q, w.keepsFace = true ∧ w.onTables = true ∧ vx_ot w = true) ∧ Bundle.fit (am_ex q.2.2.2.2.2) = true ∧ q.2.2.2.2.2 < 3 := by
  have h := List.all_eq_true.mp am_tw_ok q hq
  simp only [Bool.and_eq_true, decide_eq_true_eq] at h
  refine ⟨fun w hw => ?_, h.1.2, h.2⟩
  have h1 := List.all_eq_true.mp h.1.1 w hw
  simp only [Bool.and_eq_true] at h1
  exact ⟨h1.1.1, h1.1.2, h1.2⟩
theorem am_V.warm {Hb : Heap} {s U : State} (hW : s.WarmedH U.vm) (h : am_V Hb s) : am_V Hb U := by
  obtain ⟨h1, h2, h3, h4, h5, h6⟩ := h
  have ha := hW.alike
  refine ⟨vx_Zq.moved ha h1, vx_Zq.moved ha h2, fun q hq => ?_, fun q hq w hw => ?_, fun w hw => ?_, fun i j hi hj hij => va_Nc.moved ha (h6 i j hi hj hij)⟩
  · obtain ⟨sa, hsa⟩ := h3 q hq
    exact ⟨sa, vk_R.warm hW hsa⟩
  · obtain ⟨k1, k2, -⟩ := (am_tw_get hq).1 w hw
    exact am_face hW k1 k2 (h4 q hq w hw)
  · have k := List.all_eq_true.mp am_cw_ok w hw
    simp only [Bool.and_eq_true] at k
    exact am_face hW k.1 k.2 (h5 w hw)
def am_rm (d mc ms : Nat) : Room := { frames := d + 10, cells := mc, slots := ms, locals := 64 * d + 400 }
def am_Pc (ρ : Nat → Nat) (D : va_G) (cI cJ cZ : ClassId) (Hb : Heap) (X : amX) (as : List Value) (w : amW) : Array Value → State → Prop := fun v U => v = (as.map (am_rv ρ)).toArray ∧ am_Rep ρ D cI cJ cZ Hb w U.heap ∧ am_U ρ D cI cJ cZ Hb X U ∧ am_V Hb U
def am_Qc (ρ : Nat → Nat) (D : va_G) (cI cJ cZ : ClassId) (Hb : Heap) (o : amO) (w' : amW) : Array Value → State → Outcome → State → Prop := fun _ st oc t => ∃ v, o = .inl v ∧ oc = .returned (v.map (am_rv ρ)) ∧ am_Rep ρ D cI cJ cZ Hb w' t.heap ∧ st.heap.size ≤ t.heap.size
def am_XC (ρ : Nat → Nat) (D : va_G) (cI cJ cZ : ClassId) (Hb : Heap) (o : amO) (w' : amW) : String → State → State → Prop := fun E st t => ∃ x, o = .inr x ∧ E = am_ex x ∧ x < 3 ∧ am_Rep ρ D cI cJ cZ Hb w' t.heap ∧ st.heap.size ≤ t.heap.size
theorem am_Pc_blind {ρ : Nat → Nat} {D : va_G} {cI cJ cZ : ClassId} {Hb : Heap} {X : amX} {as : List Value} {w : amW} : FrameBlind (am_Pc ρ D cI cJ cZ Hb X as w) := fun a U g mk q => ⟨q.1, q.2.1, am_U.warm (s := U) (U := U.calling g mk a) (State.WarmedH.refl U) q.2.2.1, am_V.warm (s := U) (U := U.calling g mk a) (State.WarmedH.refl U) q.2.2.2⟩
/-- what is known of the calls: each is met by the JVM, within a room for d calls -/
def am_ok (l : Launch) (ρ : Nat → Nat) (D : va_G) (cI cJ cZ : ClassId) (Hb : Heap) (X : amX) (call : amK) (d : Nat) : Prop := ∀ j as w o w', call j as w o w' → (am_cN w ≤ am_cN w' ∧ am_sN w ≤ am_sN w') ∧ ∃ M, am_M j = some M ∧ M ≠ am_m188 ∧
  vx_Met l (am_y M) (am_cdw M :: amTb) (am_rm d (am_cN w' - am_cN w) (am_sN w' - am_sN w)) (am_Pc ρ D cI cJ cZ Hb X as w) (am_Qc ρ D cI cJ cZ Hb o w') (am_XC ρ D cI cJ cZ Hb o w') (am_cN w' - am_cN w) (am_sN w' - am_sN w) (am_A Hb)
theorem am_good {M : amM} (h : am_cdw M ∈ amTb) : GoodIn amTb (am_cdw M :: amTb) := by
  have h1 : GoodIn amTb amTb := fun w hw => ⟨hw, good_of_word (List.mem_filter.mp hw).2⟩
  intro w hw
  rcases List.mem_cons.mp hw with rfl | hw
  · exact h1 _ h
  · exact h1 w hw
theorem am_good1 {w : Cond} (h : w ∈ amTb) : w ∈ amTb ∧ ((w.onTables && w.keeps) = true ∨ ∃ ty, w = .arrayClass ty) := ⟨h, good_of_word (List.mem_filter.mp h).2⟩
theorem am_CL_get {own : String} {ix k j : Nat} (h : am_CL.any (fun e => e.1 == own && e.2.1 == ix && e.2.2.1 == k && e.2.2.2.1 == j) = true) {M : amM} (hM : am_M j = some M) : Cond.methodLink own ix (am_y M) ∈ amTb ∧ (k = 2 → Cond.static (am_y M) ∈ amTb) ∧ (k ≠ 2 → Cond.instanceMethod (am_y M) ∈ amTb ∧ am_hh M = []) ∧ (k = 0 → Cond.selects (am_y M).cls (am_y M) (am_y M) ∈ amTb) ∧ (k = 1 → (am_y M).name = "<init>" ∧ am_rt M = none) := by
  obtain ⟨e, he, h1⟩ := List.any_eq_true.mp h
  simp only [Bool.and_eq_true, beq_iff_eq] at h1
  obtain ⟨⟨⟨rfl, rfl⟩, rfl⟩, rfl⟩ := h1
  have h2 := List.all_eq_true.mp am_CL_ok e he
  unfold am_clw at h2
  rw [hM] at h2
  split at h2
  · next M' p hM' hp =>
    cases hM'
    simp only [Bool.and_eq_true] at h2
    obtain ⟨⟨⟨g1, g2⟩, g3⟩, g4⟩ := h2
    refine ⟨am_wd_in g1, fun hk => ?_, fun hk => ?_, fun hk => ?_, fun hk => ?_⟩
    · rw [if_pos hk] at g2; exact am_wd_in g2
    · rw [if_neg hk] at g2
      simp only [Bool.and_eq_true, decide_eq_true_eq] at g2
      exact ⟨am_wd_in g2.1, g2.2⟩
    · rw [if_pos hk] at g3; exact am_wd_in g3
    · rw [if_pos hk] at g4; exact of_decide_eq_true g4
  · cases h2
theorem am_cat (ρ : Nat → Nat) (st : List Value) : ((st.map (am_rv ρ)).map fun v => v.category).sum = (st.map fun v => v.category).sum := by
  rw [List.map_map]
  have : ((fun v : Value => v.category) ∘ am_rv ρ) = fun v => v.category := by funext v; exact am_rv_cat ρ v
  rw [this]
section RUNI
variable {p : Program} {l : Launch} {e : Env} {R : Room} {s : State} {m : MethodId} {args : Array Value} {below : List Frame} {meth : Method} {c : Code} {H : Heap} {locs : List Loc} {cells slots : Nat}
variable {y : MethodName} {bytes cc : ByteArray} {maxL nL mc ms n index : Nat} {ws : List Cond} {rm : Room} {Pc : Array Value → State → Prop} {Qc : Array Value → State → Outcome → State → Prop} {XC : String → State → State → Prop} {free : Addr → Prop} {Ts : List Cond} {own : String} {b : Addr} {As rest : List Value} {g : JFrame}
theorem am_runI (S : CallFix p m c cc nL s args Ts own) (hM : vx_Met l y ws rm Pc Qc XC mc ms free) (hX : ∀ E st t, ¬ XC E st t) (cw : CallB R s args own index y bytes maxL none ws rm mc ms n ∧ y.name = "<init>" ∧ (Cond.instanceMethod y).before args s = true) (hp : PreS s H Pc (.ref b :: As))
    (hg : g.method = m) (hn : As.length = n) (hsize : g.locals.size = nL) (hstack : g.stack = As.reverse ++ .ref b :: rest) (hW : 2 * g.monitorRoom + (rest.map fun v => v.category).sum ≤ 8) (hdg : decode cc g.pc = .ok (.invokespecial index, 3)) (hf : cells + mc ≤ R.cells ∧ slots + ms ≤ R.slots) :
    vx_Run p l e R s m args below meth c H locs cells slots mc ms g rest (Qc (Value.ref b :: As).toArray) XC free := by
  have hM' : Met l y ws rm Pc Qc mc ms free := by
    intro p e ha hc hk s m args below hf happ hP hK
    obtain ⟨n, o, h1, h2, h3, h4⟩ := hM p e ha hc hk s m args below hf happ hP hK
    rcases h4 with h4 | ⟨q, -, E, ce, L, h5, -⟩
    · exact ⟨n, o, h1, h2, h3, h4⟩
    · exact absurd h5 (hX _ _ _)
  have h := va_runI (l := l) (e := e) (below := below) (meth := meth) (H := H) (locs := locs) (cells := cells) (slots := slots) (rest := rest) S hM' cw hp hg hn hsize hstack hW hdg hf
  intro T hT X0
  obtain ⟨v, st₀, t, T', L, h0, X', hL, e1, e2, hq, st⟩ := h T hT X0
  exact Or.inl ⟨v, st₀, t, T', L, h0, X', hL, e1, e2, hq, st⟩
end RUNI
section RUN
variable {p : Program} {l : Launch} {e : Env} {R : Room} {s : State} {m : MethodId} {args : Array Value} {below : List Frame} {meth : Method} {c : Code} {H : Heap} {locs : List Loc} {cells slots : Nat} {Q : State → Prop}
variable {ρ : Nat → Nat} {D : va_G} {cI cJ cZ : ClassId} {Hb : Heap} {X : amX} {M : amM}
set_option maxHeartbeats 4000000 in
set_option maxRecDepth 100000 in
theorem am_run (hF : am_Fr p R s m args meth c ρ D cI cJ cZ Hb X M) (hV : am_V Hb s) {pc len ix j dd mc ms : Nat} {ins : Instr} {st as rest : List Value} {w : amW} {ls : Array Slot} {M' : amM} {Qc : Array Value → State → Outcome → State → Prop} {XC : String → State → State → Prop}
    (hchk : am_chk M (pc, ins, len, ix) = true) (hinv : am_inv ins w st = some (j, as, rest)) (hM' : am_M j = some M') (hne : M' ≠ am_m188) (hR : am_Rep ρ D cI cJ cZ Hb w H) (hsz : ls.size = am_mL M)
    (hMet : vx_Met l (am_y M') (am_cdw M' :: amTb) (am_rm dd mc ms) (am_Pc ρ D cI cJ cZ Hb X as w) Qc XC mc ms (am_A Hb)) (hfr : dd + 11 ≤ R.frames) (hlo : 64 * dd + 464 ≤ R.locals) (hcc : cells + mc ≤ R.cells) (hcs : slots + ms ≤ R.slots) (hXs : ∀ i, ins = .invokespecial i → ∀ E st t, ¬ XC E st t) :
    vx_Run p l e R s m args below meth c H locs cells slots mc ms (F0 m pc ls (st.map (am_rv ρ))) (rest.map (am_rv ρ)) (Qc (as.map (am_rv ρ)).toArray) XC (am_A Hb) := by
  obtain ⟨hx, hb, hown, hts, hU, hini, hml, hBs, hρ, hRf, hRl⟩ := hF
  have hMm : M' ∈ am_Ms := List.mem_of_getElem? hM'
  obtain ⟨k1, k2, k3, k4, k5, k6, k7, k8⟩ := am_k_all M' hMm hne
  have hPU : ∀ U : State, U.heap = H → s.WarmedH U.vm → am_Pc ρ D cI cJ cZ Hb X as w (as.map (am_rv ρ)).toArray U := fun U hU1 hW => ⟨rfl, by rw [hU1]; exact hR, am_U.warm hW hU, am_V.warm hW hV⟩
  have hRoom : (am_rm dd mc ms).frames + 1 ≤ R.frames ∧ 8 + (am_mL M' + 11) + (am_rm dd mc ms).locals ≤ R.locals := ⟨by show dd + 10 + 1 ≤ _; omega, by show 8 + (am_mL M' + 11) + (64 * dd + 400) ≤ _; omega⟩
  unfold am_inv at hinv
  split at hinv
  · next j' =>
    split at hinv
    · next M1 hM1 =>
      split at hinv
      · next b rest' hdrop =>
        split at hinv
        · next hcond =>
          cases hinv
          cases hM'.symm.trans hM1
          obtain ⟨hlen, hcat, hisC⟩ := hcond
          have hj9 : ¬ 900 ≤ j := by
            have h1 : j < am_Ms.length := (List.getElem?_eq_some_iff.mp hM').1
            have h2 : am_Ms.length = 189 := by decide +kernel
            omega
          have h1 : (am_dc M pc (.invokevirtual ix) 3 && am_CL.any (fun e => e.1 == am_own M && e.2.1 == ix && e.2.2.1 == 0 && e.2.2.2.1 == j)) = true := by
            have h2 := hchk
            simp only [am_chk] at h2
            rwa [if_neg hj9] at h2
          simp only [Bool.and_eq_true, am_dc, decide_eq_true_eq] at h1
          obtain ⟨hdg, h1⟩ := h1
          obtain ⟨c1, -, c3, c4, -⟩ := am_CL_get h1 hM'
          obtain ⟨c3, c5⟩ := c3 (by decide)
          have c4 := c4 rfl
          have hcd : am_cdw M' = .code (am_y M') (am_b M') (am_mL M') (am_rt M') := if_pos c5
          rw [hcd] at hMet k1
          obtain ⟨ci, fs, hw⟩ : ∃ ci fs, w.1[b]? = some (.inr (.inr (ci, fs))) ∧ ci = am_MC.getD j 99 := by
            unfold am_isC at hisC
            split at hisC
            · next c0 fs0 h0 => exact ⟨c0, fs0, h0, by simpa using hisC⟩
            · cases hisC
          obtain ⟨hw, rfl⟩ := hw
          have he := am_ws_at (ρ := ρ) (cI := cI) (cJ := cJ) (cZ := cZ) hw
          obtain ⟨r, hr, hrc⟩ : ∃ r, vwCl[am_MC.getD j 99]? = some r ∧ r.1 = (am_y M').cls := by
            rcases am_MC_get hM' with h9 | h9
            · obtain ⟨r, hr, -⟩ := hR.1 b _ he
              rw [h9] at hr
              exact absurd (hr : vwCl[99]? = some r) (by rw [show vwCl[99]? = none from rfl]; simp)
            · exact h9
          have hrec := va_recv hU.1 hR.1 hr he
          rw [hrc] at hrec
          have hst : st.map (am_rv ρ) = (((st.take (am_np M')).reverse).map (am_rv ρ)).reverse ++ .ref (ρ b) :: rest.map (am_rv ρ) := by
            have h3 : st = st.take (am_np M') ++ (.ref b :: rest) := by rw [← hdrop]; exact (List.take_append_drop _ _).symm
            rw [← List.map_reverse, List.reverse_reverse]
            conv => lhs; rw [h3]
            rw [List.map_append]
            rfl
          exact vx_runV (As := ((st.take (am_np M')).reverse).map (am_rv ρ)) ⟨hx, hb, hml, hown, hts⟩ hMet
            (cwV (am_np M') hts (fun w9 hw9 => by
              rcases List.mem_append.mp hw9 with h9 | h9
              · simp only [List.mem_cons, List.not_mem_nil, or_false] at h9
                rcases h9 with rfl | rfl | rfl | rfl
                · exact am_good1 c1
                · exact am_good1 c3
                · exact am_good1 c4
                · exact am_good1 k2
              · rw [← hcd] at h9; exact am_good (by rw [hcd]; exact k1) w9 h9) rfl rfl rfl ⟨rfl, k4, k5, k6⟩ hRoom)
            ⟨am_Pc_blind, hrec, hPU⟩ rfl (by simp only [List.length_map, List.length_reverse]; exact hlen) hsz hst (lv_room (by rw [am_cat]; exact hcat)) hdg ⟨hcc, hcs⟩
        · cases hinv
      · cases hinv
    · cases hinv
  · next j' =>
    split at hinv
    · next M1 hM1 =>
      split at hinv
      · next b rest' hdrop =>
        split at hinv
        · next hcond =>
          cases hinv
          cases hM'.symm.trans hM1
          obtain ⟨hlen, hcat⟩ := hcond
          have hj9 : ¬ 900 ≤ j := by
            have h1 : j < am_Ms.length := (List.getElem?_eq_some_iff.mp hM').1
            have h2 : am_Ms.length = 189 := by decide +kernel
            omega
          have h1 : (am_dc M pc (.invokespecial ix) 3 && am_CL.any (fun e => e.1 == am_own M && e.2.1 == ix && e.2.2.1 == 1 && e.2.2.2.1 == j)) = true := by
            have h2 := hchk
            simp only [am_chk] at h2
            rwa [if_neg hj9] at h2
          simp only [Bool.and_eq_true, am_dc, decide_eq_true_eq] at h1
          obtain ⟨hdg, h1⟩ := h1
          obtain ⟨c1, -, c3, -, c5⟩ := am_CL_get h1 hM'
          obtain ⟨c3, c6⟩ := c3 (by decide)
          obtain ⟨c5, c7⟩ := c5 rfl
          have hcd : am_cdw M' = .code (am_y M') (am_b M') (am_mL M') (am_rt M') := if_pos c6
          rw [hcd, c7] at hMet k1
          have hst : st.map (am_rv ρ) = (((st.take (am_np M')).reverse).map (am_rv ρ)).reverse ++ .ref (ρ b) :: rest.map (am_rv ρ) := by
            have h3 : st = st.take (am_np M') ++ (.ref b :: rest) := by rw [← hdrop]; exact (List.take_append_drop _ _).symm
            rw [← List.map_reverse, List.reverse_reverse]
            conv => lhs; rw [h3]
            rw [List.map_append]
            rfl
          exact am_runI (As := ((st.take (am_np M')).reverse).map (am_rv ρ)) ⟨hx, hb, hml, hown, hts⟩ hMet (hXs _ rfl)
            (cwI (am_np M') hts (fun w9 hw9 => am_good (M := M') (by rw [hcd, c7]; exact k1) w9 (by rw [hcd, c7]; exact hw9)) rfl rfl rfl (hts _ k2) (hts _ c1) (hts _ c3) c5 ⟨k4, k5, k6⟩ hRoom)
            ⟨am_Pc_blind, hPU⟩ rfl (by simp only [List.length_map, List.length_reverse]; exact hlen) hsz hst (lv_room (by rw [am_cat]; exact hcat)) hdg ⟨hcc, hcs⟩
        · cases hinv
      · cases hinv
    · cases hinv
  · next j' =>
    split at hinv
    · next M1 hM1 =>
      split at hinv
      · next hcond =>
        cases hinv
        cases hM'.symm.trans hM1
        obtain ⟨hlen, hcat⟩ := hcond
        have h1 : (am_dc M pc (.invokestatic ix) 3 && am_CL.any (fun e => e.1 == am_own M && e.2.1 == ix && e.2.2.1 == 2 && e.2.2.2.1 == j)) = true := hchk
        simp only [Bool.and_eq_true, am_dc, decide_eq_true_eq] at h1
        obtain ⟨hdg, h1⟩ := h1
        obtain ⟨c1, c2, -, -, -⟩ := am_CL_get h1 hM'
        have c2 := c2 rfl
        have hst : st.map (am_rv ρ) = (((st.take (am_np M')).reverse).map (am_rv ρ)).reverse ++ (st.drop (am_np M')).map (am_rv ρ) := by
          rw [← List.map_reverse, List.reverse_reverse, ← List.map_append, List.take_append_drop]
        have hG : ∀ w9 ∈ va_wsS (am_own M) ix (am_y M') (am_cdw M' :: amTb), w9 ∈ amTb ∧ ((w9.onTables && w9.keeps) = true ∨ ∃ ty, w9 = .arrayClass ty) := fun w9 hw9 => by
          rcases List.mem_append.mp hw9 with h9 | h9
          · simp only [List.mem_cons, List.not_mem_nil, or_false] at h9
            rcases h9 with rfl | rfl | rfl
            · exact am_good1 c1
            · exact am_good1 c2
            · exact am_good1 k2
          · exact am_good k1 w9 h9
        by_cases hh : am_hh M' = []
        · have hcd : am_cdw M' = .code (am_y M') (am_b M') (am_mL M') (am_rt M') := if_pos hh
          rw [hcd] at hMet hG
          exact vx_runS (As := ((st.take (am_np M')).reverse).map (am_rv ρ)) ⟨hx, hb, hml, hown, hts⟩ hMet (va_cwS (am_np M') hts hG rfl rfl rfl ⟨k4, k5, k6⟩ hRoom)
            ⟨am_Pc_blind, hPU⟩ rfl (by simp only [List.length_map, List.length_reverse]; exact hlen) hsz hst (lv_room (by rw [am_cat]; exact hcat)) hdg ⟨hcc, hcs⟩
        · have hcd : am_cdw M' = .codeWith (am_y M') (am_b M') (am_mL M') (am_rt M') (am_hh M') := if_neg hh
          rw [hcd] at hMet hG
          exact vx_runSX (hh := am_hh M') (As := ((st.take (am_np M')).reverse).map (am_rv ρ)) ⟨hx, hb, hml, hown, hts⟩ hMet (vx_cwSW (am_np M') hts hG rfl rfl rfl ⟨k4, k5, k6⟩ hRoom)
            ⟨am_Pc_blind, hPU⟩ rfl (by simp only [List.length_map, List.length_reverse]; exact hlen) hsz hst (lv_room (by rw [am_cat]; exact hcat)) hdg ⟨hcc, hcs⟩
      · cases hinv
    · cases hinv
  · cases hinv
end RUN
theorem am_bi_lv {q : Nat} {fr fr1 : amF} {w w1 : amW} (h : am_bi q fr w = some (fr1, w1)) : fr1.2.1 = fr.2.1 := by
  unfold am_bi at h
  split at h
  · split at h
    · split at h
      · cases h; rfl
      · split at h
        · cases h; rfl
        · cases h
    · split at h
      · cases h; rfl
      · cases h
    · cases h
  · cases h
theorem am_hh_ok : am_Ms.all (fun M => (am_hh M).all (fun h => h.2.2.2 == 13 || h.2.2.2 == 15 || h.2.2.2 == 30)) = true := by decide +kernel
section CAUGHT
variable {p : Program} {l : Launch} {e : Env} {R : Room} {s : State} {m : MethodId} {args : Array Value} {below : List Frame} {meth : Method} {c : Code} {Q : State → Prop} {H : Heap} {locs : List Loc} {cells slots : Nat}
variable {ρ : Nat → Nat} {D : va_G} {cI cJ cZ : ClassId} {Hb : Heap} {X : amX} {M : amM}
theorem am_cwin {w : Cond} (hV : am_V Hb s) (h : w ∈ am_cw) : w.before args s = true := by
  have k := List.all_eq_true.mp am_cw_ok w h
  simp only [Bool.and_eq_true] at k
  exact va_tabs k.2 rfl (hV.2.2.2.2.1 w h)
theorem am_find_split {α : Type} {P : α → Bool} : ∀ {l : List α} {a : α}, l.find? P = some a → ∃ pre suf, l = pre ++ a :: suf ∧ P a = true ∧ ∀ x ∈ pre, P x = false
  | [], _, h => by cases h
  | b :: l, a, h => by
    by_cases hb : P b = true
    · rw [List.find?_cons_of_pos hb] at h
      cases h
      exact ⟨[], l, rfl, hb, fun x hx => by cases hx⟩
    · rw [List.find?_cons_of_neg hb] at h
      obtain ⟨pre, suf, h1, h2, h3⟩ := am_find_split h
      refine ⟨b :: pre, suf, by rw [h1]; rfl, h2, fun x hx => ?_⟩
      rcases List.mem_cons.mp hx with rfl | hx
      · simpa using hb
      · exact h3 x hx
theorem am_caught (hMm : M ∈ am_Ms) (hF : am_Fr p R s m args meth c ρ D cI cJ cZ Hb X M) (hV : am_V Hb s) (htab : c.exceptionTable.toList = tableOf (am_hh M)) (hll : am_own M = "ListDeskLaw") {x pc h : Nat} (hx3 : x < 3) (hh : am_hnd M pc x = some h) {ls : Array Slot} {rest : List Value} {q : Addr} {ce : Cell}
    (hcell : H[q]? = some ce) (hv : ce.vm = .none) (hcl : s.vm.findClass (am_ex x) = some ce.cls) (kk : W p l e R s m args below meth c H locs cells slots Q (F0 m h ls [.ref q])) :
    vx_W p l e R s m args below meth c H locs cells slots Q (F0 m pc ls rest) q := by
  obtain ⟨-, -, hown, -⟩ := hF
  rw [hll] at hown
  unfold am_hnd at hh
  simp only [Option.map_eq_some_iff] at hh
  obtain ⟨z, h1, rfl⟩ := hh
  obtain ⟨pre, suf, g1, g2, g3⟩ := am_find_split h1
  simp only [Bool.and_eq_true, decide_eq_true_eq, beq_iff_eq] at g2
  have hsp : c.exceptionTable.toList = (tableOf pre) ++ ⟨z.1, z.2.1, z.2.2.1, z.2.2.2⟩ :: tableOf suf := by
    rw [htab, g1]
    simp [tableOf]
  have hz : z.2.2.2 = am_exn x := g2.2
  have hlk : ∀ y, y < 3 → (Cond.classLink "ListDeskLaw" (am_exn y) (am_ex y)).before args s = true := by
    intro y hy
    match y, hy with
    | 0, _ => exact am_cwin hV (by simp [am_cw, am_exn, am_ex])
    | 1, _ => exact am_cwin hV (by simp [am_cw, am_exn, am_ex])
    | 2, _ => exact am_cwin hV (by simp [am_cw, am_exn, am_ex])
  have hcast : (Cond.castable (am_ex x) (am_ex x)).before args s = true := by
    match x, hx3 with
    | 0, _ => exact am_cwin hV (by simp [am_cw, am_ex])
    | 1, _ => exact am_cwin hV (by simp [am_cw, am_ex])
    | 2, _ => exact am_cwin hV (by simp [am_cw, am_ex])
  have hne0 : am_exn x ≠ 0 := by unfold am_exn; split <;> (try split) <;> omega
  refine vx_catch (own := "ListDeskLaw") (name := am_ex x) (E := am_ex x) hown (tableOf pre) ⟨z.1, z.2.1, z.2.2.1, z.2.2.2⟩ (tableOf suf) hsp ?_ ?_ ?_ ?_ hcast hcell hv hcl kk
  · intro y hy
    obtain ⟨y0, hy0, rfl⟩ := List.mem_map.mp hy
    have g4 := g3 y0 hy0
    by_cases hcv : y0.1 ≤ pc ∧ pc < y0.2.1
    · right
      have hne : y0.2.2.2 ≠ am_exn x := fun h9 => by rw [h9] at g4; simp [hcv] at g4
      have hin : y0 ∈ am_hh M := by rw [g1]; exact List.mem_append_left _ hy0
      have hok := List.all_eq_true.mp (List.all_eq_true.mp am_hh_ok M hMm) y0 hin
      simp only [Bool.or_eq_true, beq_iff_eq] at hok
      obtain ⟨y, hy3, hye⟩ : ∃ y, y < 3 ∧ y0.2.2.2 = am_exn y := by
        rcases hok with (h9 | h9) | h9
        · exact ⟨0, by omega, h9⟩
        · exact ⟨1, by omega, h9⟩
        · exact ⟨2, by omega, h9⟩
      have hne0' : am_exn y ≠ 0 := by unfold am_exn; split <;> (try split) <;> omega
      refine ⟨by show y0.2.2.2 ≠ 0; rw [hye]; exact hne0', am_ex y, ?_, hV.2.2.2.2.2 x y hx3 hy3 (fun h9 => hne (by rw [hye, h9]))⟩
      show (Cond.classLink "ListDeskLaw" y0.2.2.2 (am_ex y)).before args s = true
      rw [hye]; exact hlk y hy3
    · left
      show (decide (y0.1 ≤ pc) && decide (pc < y0.2.1)) = false
      simp only [Bool.and_eq_false_iff, decide_eq_false_iff_not]
      omega
  · show (decide (z.1 ≤ pc) && decide (pc < z.2.1)) = true
    simp only [Bool.and_eq_true, decide_eq_true_eq]
    exact g2.1
  · show z.2.2.2 ≠ 0
    rw [hz]; exact hne0
  · show (Cond.classLink "ListDeskLaw" z.2.2.2 (am_ex x)).before args s = true
    rw [hz]; exact hlk x hx3
end CAUGHT

theorem am_mono {X : amX} {call : amK} {M : amM} (hcall : ∀ j as w o w', call j as w o w' → am_cN w ≤ am_cN w' ∧ am_sN w ≤ am_sN w') : ∀ (n : Nat) (fr : amF) (w : amW) (o : amO) (w' : amW), AMl X call M n fr w o w' → am_cN w ≤ am_cN w' ∧ am_sN w ≤ am_sN w' := by
  intro n
  induction n with
  | zero => intro fr w o w' h; exact h.elim
  | succ n ih =>
    intro fr w o w' h
    obtain ⟨ins, len, ix, -, h⟩ := h
    rcases h with ⟨fr1, w1, h1, h2⟩ | ⟨v, -, -, rfl⟩ | ⟨j, as, rest, v, w1, -, h1, h2⟩ | ⟨j, as, rest, x, w1, -, h1, -, -, -, rfl⟩ | ⟨j, as, rest, x, w1, h, k, ln, ix', -, h1, -, -, -, -, h2⟩ | ⟨x, -, -, -, rfl⟩
    · have a1 := am_next_mono h1
      have a2 := ih _ _ _ _ h2
      omega
    · exact ⟨Nat.le_refl _, Nat.le_refl _⟩
    · have a1 := hcall _ _ _ _ _ h1
      have a2 := ih _ _ _ _ h2
      omega
    · exact hcall _ _ _ _ _ h1
    · have a1 := hcall _ _ _ _ _ h1
      have a2 := ih _ _ _ _ h2
      omega
    · simp only [am_cN, am_sN]; omega
section FRAME
variable {p : Program} {l : Launch} {e : Env} {R : Room} {s : State} {m : MethodId} {args : Array Value} {below : List Frame} {meth : Method} {c : Code} {Q : State → Prop}
variable {ρ : Nat → Nat} {D : va_G} {cI cJ cZ : ClassId} {Hb : Heap} {X : amX} {M : amM}
/-- Enum.ordinal, String.length, String.charAt, in a frame of M -/
def am_BI (p : Program) (l : Launch) (e : Env) (R : Room) (s : State) (m : MethodId) (args : Array Value) (below : List Frame) (meth : Method) (c : Code) (ρ : Nat → Nat) (D : va_G) (cI cJ cZ : ClassId) (Hb : Heap) (M : amM) (Q : State → Prop) : Prop :=
  ∀ (H : Heap) (locs : List Loc) (cells slots pc len ix j : Nat) (lv : List (Nat × Value)) (st : List Value) (w w1 : amW) (fr1 : amF) (ls : Array Slot), 900 ≤ j → am_chk M (pc, .invokevirtual j, len, ix) = true → am_bi j (pc, lv, st) w = some (fr1, w1) → am_Rep ρ D cI cJ cZ Hb w H → (∀ z ∈ locs, Hb.size ≤ z.base) → s.heap.size ≤ H.size → ls.size = am_mL M → cells ≤ R.cells → slots ≤ R.slots →
    W p l e R s m args below meth c H locs cells slots Q (F0 m fr1.1 ls (fr1.2.2.map (am_rv ρ))) → W p l e R s m args below meth c H locs cells slots Q (F0 m pc ls (st.map (am_rv ρ)))
set_option maxHeartbeats 4000000 in
set_option maxRecDepth 100000 in
theorem am_frame {call : amK} {dd mc ms : Nat} {o : amO} {w' : amW} (hMm : M ∈ am_Ms) (hF : am_Fr p R s m args meth c ρ D cI cJ cZ Hb X M) (hV : am_V Hb s)
    (htab : c.exceptionTable.toList = tableOf (am_hh M)) (hlaw : am_hh M = [] ∨ am_own M = "ListDeskLaw") (hfr : dd + 11 ≤ R.frames) (hlo : 64 * dd + 464 ≤ R.locals) (hmc : mc ≤ R.cells) (hms : ms ≤ R.slots)
    (hcall : am_ok l ρ D cI cJ cZ Hb X call dd) (hbi : am_BI p l e R s m args below meth c ρ D cI cJ cZ Hb M Q)
    (hret : ∀ (H : Heap) (locs : List Loc) (ls : Array Slot) (pc len ix cells slots : Nat) (ins : Instr) (v : Option Value) (st : List Value), o = .inl v → am_chk M (pc, ins, len, ix) = true → am_ret (am_rt M) ins st = some v → am_Rep ρ D cI cJ cZ Hb w' H → (∀ z ∈ locs, Hb.size ≤ z.base) → s.heap.size ≤ H.size → cells ≤ mc → slots ≤ ms → W p l e R s m args below meth c H locs cells slots Q (F0 m pc ls (st.map (am_rv ρ))))
    (hout : ∀ (H : Heap) (locs : List Loc) (ls : Array Slot) (pc cells slots x : Nat) (ce : Cell) (q : Addr) (st : List Value), o = .inr x → x < 3 → am_hh M = [] → H[q]? = some ce → ce.vm = .none → s.vm.findClass (am_ex x) = some ce.cls → am_Rep ρ D cI cJ cZ Hb w' H → (∀ z ∈ locs, Hb.size ≤ z.base) → s.heap.size ≤ H.size → cells ≤ mc → slots ≤ ms → vx_W p l e R s m args below meth c H locs cells slots Q (F0 m pc ls st) q)
    (hthr : ∀ (H : Heap) (locs : List Loc) (ls : Array Slot) (pc len ix cells slots x : Nat) (ins : Instr) (st : List Value) (w : amW), o = .inr x → w' = (w.1, w.2.1 + 1, w.2.2 + 6) → am_hh M = [] → am_chk M (pc, ins, len, ix) = true → am_thr ins st = some x → am_Rep ρ D cI cJ cZ Hb w H → (∀ z ∈ locs, Hb.size ≤ z.base) → s.heap.size ≤ H.size → ls.size = am_mL M → cells + 1 ≤ mc → slots + 6 ≤ ms → W p l e R s m args below meth c H locs cells slots Q (F0 m pc ls (st.map (am_rv ρ)))) :
    ∀ (n : Nat) (fr : amF) (w : amW), AMl X call M n fr w o w' → ∀ (H : Heap) (locs : List Loc) (ls : Array Slot) (cells slots : Nat), am_Rep ρ D cI cJ cZ Hb w H → lv_has ls (am_mL M) (fr.2.1.map (am_rl ρ)) → (∀ z ∈ locs, Hb.size ≤ z.base) → s.heap.size ≤ H.size → cells + (am_cN w' - am_cN w) ≤ mc → slots + (am_sN w' - am_sN w) ≤ ms →
      W p l e R s m args below meth c H locs cells slots Q (F0 m fr.1 ls (fr.2.2.map (am_rv ρ))) := by
  have hmono := am_mono (X := X) (M := M) (call := call) (fun j as w o w' h => (hcall j as w o w' h).1)
  intro n
  induction n with
  | zero => intro fr w h; exact h.elim
  | succ n ih =>
    intro fr w h H locs ls cells slots hR hL hlocs hs hcc hcs
    obtain ⟨pc, lv, st⟩ := fr
    obtain ⟨ins, len, ix, hat, h⟩ := h
    have hat : am_at M pc = some (ins, len, ix) := hat
    have hchk := am_chk_at hMm hat
    have hL : lv_has ls (am_mL M) (lv.map (am_rl ρ)) := hL
    show W p l e R s m args below meth c H locs cells slots Q (F0 m pc ls (st.map (am_rv ρ)))
    rcases h with ⟨fr1, w1, h1, h2⟩ | ⟨v, h1, h2, h3⟩ | ⟨j, as, rest, v, w1, h1, h2, h3⟩ | ⟨j, as, rest, x, w1, h1, h2, h3, h4, h5, h6⟩ | ⟨j, as, rest, x, w1, hd, k, ln, ix', h1, h2, h3, h4, h5, h6, h7⟩ | ⟨x, h1, h2, h3, h4⟩
    · have a1 := am_next_mono h1
      have a2 := hmono _ _ _ _ _ h2
      refine am_plain hF hchk h1 hR hL hlocs hs (by omega) (by omega) ?_ (fun H1 locs1 ls1 hR1 hL1 hl1 hs1 => ih fr1 w1 h2 H1 locs1 ls1 _ _ hR1 hL1 hl1 hs1 (by omega) (by omega))
      intro j hj h9
      subst hj
      have h1' : (if 900 ≤ j then am_bi j (pc, lv, st) w else none) = some (fr1, w1) := h1
      rw [if_pos h9] at h1'
      have hlv : fr1.2.1 = lv := am_bi_lv h1'
      have hw1 : w1 = w := am_bi_w h1'
      refine hbi H locs cells slots pc len ix j lv st w w1 fr1 ls h9 hchk h1' hR hlocs hs hL.1 (by omega) (by omega) ?_
      subst hw1
      exact ih fr1 w1 h2 H locs ls cells slots hR (by rw [hlv]; exact hL) hlocs hs hcc hcs
    · subst h3
      exact hret H locs ls pc len ix cells slots ins v st h2 hchk h1 hR hlocs hs (by omega) (by omega)
    · obtain ⟨a1, M', hM', hne, hMet⟩ := hcall _ _ _ _ _ h2
      have a2 := hmono _ _ _ _ _ h3
      have hrun := am_run (l := l) (e := e) (below := below) (H := H) (locs := locs) (cells := cells) (slots := slots) hF hV hchk h1 hM' hne hR hL.1 hMet hfr hlo (by omega) (by omega) (fun i _ E st0 t hx => by obtain ⟨y, hy, -⟩ := hx; cases hy)
      intro T hT X0
      rcases hrun T hT X0 with ⟨v', st₀, t, T', L, g0, X', gL, e1, e2, ⟨v2, gv, gr, gR, gz⟩, go⟩ | ⟨q, st₀, t, T', L, E, ce, g0, X', gL, e1, e2, ⟨y, hy, -⟩, -⟩
      · cases gv
        have gr : v' = v.map (am_rv ρ) := Outcome.returned.inj gr
        subst gr
        rw [g0] at gz
        have k := ih (pc + 3, lv, v.toList ++ rest) w1 h3 T'.heap (locs ++ L) ls (cells + (am_cN w1 - am_cN w)) (slots + (am_sN w1 - am_sN w)) (by rw [e1]; exact gR) hL (fun z hz => (List.mem_append.mp hz).elim (hlocs z) (gL z)) (by rw [e1]; omega) (by omega) (by omega) T' rfl X'
        obtain ⟨t2, b1, b2⟩ := k
        refine ⟨t2, go t2 ?_, b2⟩
        have hstk : (v.toList ++ rest).map (am_rv ρ) = (v.map (am_rv ρ)).toList ++ rest.map (am_rv ρ) := by cases v <;> rfl
        have b1 : Steps p.tables e below (T'.setTop (F0 m (pc + 3) ls ((v.toList ++ rest).map (am_rv ρ)))) t2 := b1
        rw [hstk] at b1
        exact b1
      · cases hy
    · obtain ⟨a1, M', hM', hne, hMet⟩ := hcall _ _ _ _ _ h2
      subst h6
      have hrun := am_run (l := l) (e := e) (below := below) (H := H) (locs := locs) (cells := cells) (slots := slots) hF hV hchk h1 hM' hne hR hL.1 hMet hfr hlo (by omega) (by omega) (fun i hi => absurd hi (h3 i))
      intro T hT X0
      rcases hrun T hT X0 with ⟨v', st₀, t, T', L, g0, X', gL, e1, e2, ⟨v2, gv, -⟩, go⟩ | ⟨q, st₀, t, T', L, E, ce, g0, X', gL, e1, e2, ⟨y, hy, hE, hy3, gR, gz⟩, g1, g2, g3, go⟩
      · cases gv
      · cases hy
        subst hE
        rw [g0] at gz
        have k := hout T'.heap (locs ++ L) ls pc (cells + (am_cN w' - am_cN w)) (slots + (am_sN w' - am_sN w)) x ce q (rest.map (am_rv ρ)) h5 hy3 h4 (by rw [e1]; exact g1) g2 g3 (by rw [e1]; exact gR) (fun z hz => (List.mem_append.mp hz).elim (hlocs z) (gL z)) (by rw [e1]; omega) (by omega) (by omega) T' rfl X'
        obtain ⟨t2, b1, b2⟩ := k
        exact ⟨t2, go.trans b1, b2⟩
    · obtain ⟨a1, M', hM', hne, hMet⟩ := hcall _ _ _ _ _ h2
      have a2 := hmono _ _ _ _ _ h7
      have hrun := am_run (l := l) (e := e) (below := below) (H := H) (locs := locs) (cells := cells) (slots := slots) hF hV hchk h1 hM' hne hR hL.1 hMet hfr hlo (by omega) (by omega) (fun i hi => absurd hi (h3 i))
      intro T hT X0
      rcases hrun T hT X0 with ⟨v', st₀, t, T', L, g0, X', gL, e1, e2, ⟨v2, gv, -⟩, go⟩ | ⟨q, st₀, t, T', L, E, ce, g0, X', gL, e1, e2, ⟨y, hy, hE, hy3, gR, gz⟩, g1, g2, g3, go⟩
      · cases gv
      · cases hy
        subst hE
        rw [g0] at gz
        have hll : am_own M = "ListDeskLaw" := by
          rcases hlaw with h9 | h9
          · have h10 := h4
            unfold am_hnd at h10
            rw [h9] at h10
            cases h10
          · exact h9
        have hchk2 := am_chk_at hMm h5
        have hst1 : ∀ (Hx : Heap) (locsx : List Loc) (cx sx : Nat), (∀ ls' : Array Slot, lv_has ls' (am_mL M) (((am_st1 lv k .null).drop 1).map (am_rl ρ)) → W p l e R s m args below meth c Hx locsx cx sx Q (F0 m (hd + ln) ls' [])) → W p l e R s m args below meth c Hx locsx cx sx Q (F0 m hd ls [.ref q]) := by
          intro Hx locsx cx sx kk9
          obtain ⟨hx9, hb9, -⟩ := id hF
          have h1' : ((decide (ln = 2) && am_dc M hd (.astore k) 2) || (decide (ln = 1) && decide (k < 4) && am_dc M hd (.astore_n (Fin.ofNat 4 k)) 1)) = true := hchk2
          simp only [Bool.or_eq_true, Bool.and_eq_true, decide_eq_true_eq, am_dc] at h1'
          have hfor : ∀ ls' : Array Slot, lv_has ls' (am_mL M) ((k, Value.ref q) :: (lv.map (am_rl ρ)).filter (fun z => !(z.1 == k) && !(z.1 + 1 == k && z.2.category == 2))) → lv_has ls' (am_mL M) (((am_st1 lv k .null).drop 1).map (am_rl ρ)) := by
            intro ls' hl'
            refine ⟨hl'.1, hl'.2.1, fun z hz => hl'.2.2 z (List.mem_cons_of_mem _ ?_)⟩
            have h9 := am_st1_map ρ lv k .null
            have h10 : ((am_st1 lv k .null).drop 1).map (am_rl ρ) = (lv.map (am_rl ρ)).filter (fun z => !(z.1 == k) && !(z.1 + 1 == k && z.2.category == 2)) := by
              rw [List.map_drop, ← h9]
              rfl
            rw [h10] at hz
            exact hz
          rcases h1' with ⟨rfl, hdg⟩ | ⟨⟨rfl, hi4⟩, hdg⟩
          · exact lv_astore hx9 hb9 hdg hL h6 rfl (fun ls1 hl1 => kk9 ls1 (hfor ls1 hl1))
          · exact lv_astore_n hx9 hb9 hdg (am_fin4 hi4) hL h6 rfl (fun ls1 hl1 => kk9 ls1 (hfor ls1 hl1))
        have hcont := hst1 T'.heap (locs ++ L) (cells + (am_cN w1 - am_cN w)) (slots + (am_sN w1 - am_sN w)) (fun ls' hl' => ih (hd + ln, (am_st1 lv k .null).drop 1, []) w1 h7 T'.heap (locs ++ L) ls' _ _ (by rw [e1]; exact gR) hl' (fun z hz => (List.mem_append.mp hz).elim (hlocs z) (gL z)) (by rw [e1]; omega) (by omega) (by omega))
        have hca := am_caught (l := l) (e := e) (below := below) (args := args) (meth := meth) (R := R) (ls := ls) (rest := rest.map (am_rv ρ)) hMm hF hV htab hll hy3 h4 (H := T'.heap) (q := q) (ce := ce) (by rw [e1]; exact g1) g2 g3 hcont
        obtain ⟨t2, b1, b2⟩ := hca T' rfl X'
        exact ⟨t2, go.trans b1, b2⟩
    · have e5 : am_cN w' - am_cN w = 1 ∧ am_sN w' - am_sN w = 6 := by rw [h4]; simp only [am_cN, am_sN]; omega
      exact hthr H locs ls pc len ix cells slots x ins st w h3 h4 h2 hchk h1 hR hlocs hs hL.1 (by omega) (by omega)
end FRAME
