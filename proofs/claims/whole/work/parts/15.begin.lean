/-! the law's start: the things that stand there, and an empty world -/
def am_nm : List String := ["LAMBDA", "IF", "LET", "LETREC", "SET", "BEGIN", "ADD", "SUBTRACT", "MULTIPLY", "LESS", "EQUAL", "SAME", "CONS", "CAR", "CDR", "IS_PAIR", "IS_NULL", "NOT", "OUT"]
def am_sk : List (String × Nat) := [("ListDesk$Word", 92), ("ListDesk$Word", 98), ("ListDesk$Word", 101), ("ListDesk$Word", 104), ("ListDesk$Word", 107), ("ListDesk$Word", 110), ("ListDesk$Word", 113), ("ListDesk$Word", 118), ("ListDesk$Word", 121), ("ListDesk$Word", 124), ("ListDesk$Word", 127), ("ListDesk$Word", 130), ("ListDesk$Word", 133), ("ListDesk$Word", 136), ("ListDesk$Word", 139), ("ListDesk$Word", 142), ("ListDesk$Word", 145), ("ListDesk$Word", 148), ("ListDesk$Word", 151), ("ListDesk$Reader", 96)]
abbrev am_tm (i : Nat) : Term := .string (am_sk.getD i ("", 0)).1 (am_sk.getD i ("", 0)).2
abbrev am_te (i : Nat) : Term := .static "ListDesk$Word" (am_nm.getD i "") "LListDesk$Word;"
abbrev am_gn : Cond := Jvm.Cond.and given_1 narrow_1
abbrev an_F : List Cond := flatC am_gn
def an_sp : List Nat := [650, 660, 666, 673, 683, 691, 700, 705, 710, 715, 720, 725, 732, 740, 747, 754, 763, 772, 779, 464]
theorem an_in {i : Nat} {w : Cond} (h : decide (an_F[i]? = some w) = true) : w ∈ flatC am_gn := List.mem_of_getElem? (of_decide_eq_true h)
def an_sc (i : Nat) : Bool := decide (an_F[an_sp.getD i 0]? = some (Cond.exactly (am_tm i) "java/lang/String")) && decide (an_F[an_sp.getD i 0 + 1]? = some (Cond.eq (.field (am_tm i) "java/lang/String" "coder" "B") (.int 0))) && decide (an_F[an_sp.getD i 0 + 2]? = some (Cond.arrayOf (.field (am_tm i) "java/lang/String" "value" "[B") .byte)) && decide (an_F[an_sp.getD i 0 + 3]? = some (Cond.eq (.length (.field (am_tm i) "java/lang/String" "value" "[B")) (.int (Int32.ofNat (am_lens.getD i 0))))) && (List.range (am_lens.getD i 0)).all (fun j => decide (an_F[an_sp.getD i 0 + 4 + j]? = some (Cond.eq (.elem (.field (am_tm i) "java/lang/String" "value" "[B") (.int (Int32.ofNat j))) (.int ((am_tx.getD i []).getD j 0)))))
theorem an_s : (List.range 20).all an_sc = true := by decide +kernel
theorem an_s0 {i : Nat} (hi : i < 20) : Cond.exactly (am_tm i) "java/lang/String" ∈ flatC am_gn ∧ Cond.eq (.field (am_tm i) "java/lang/String" "coder" "B") (.int 0) ∈ flatC am_gn ∧ Cond.arrayOf (.field (am_tm i) "java/lang/String" "value" "[B") .byte ∈ flatC am_gn ∧ Cond.eq (.length (.field (am_tm i) "java/lang/String" "value" "[B")) (.int (Int32.ofNat (am_lens.getD i 0))) ∈ flatC am_gn ∧ ∀ j, j < am_lens.getD i 0 → Cond.eq (.elem (.field (am_tm i) "java/lang/String" "value" "[B") (.int (Int32.ofNat j))) (.int ((am_tx.getD i []).getD j 0)) ∈ flatC am_gn := by
  have h := List.all_eq_true.mp an_s i (List.mem_range.mpr hi)
  unfold an_sc at h
  simp only [Bool.and_eq_true] at h
  obtain ⟨⟨⟨⟨h1, h2⟩, h3⟩, h4⟩, h5⟩ := h
  exact ⟨an_in h1, an_in h2, an_in h3, an_in h4, fun j hj => an_in (List.all_eq_true.mp h5 j (List.mem_range.mpr hj))⟩
def an_p1 : List Nat := [57, 62, 68, 75, 83, 92, 102, 113, 125, 138, 152, 167, 183, 200, 218, 237, 257, 278, 300]
def an_p2 : List Nat := [58, 63, 69, 76, 84, 93, 103, 114, 126, 139, 153, 168, 184, 201, 219, 238, 258, 279, 301]
def an_p3 : List Nat := [60, 65, 71, 78, 86, 95, 105, 116, 128, 141, 155, 170, 186, 203, 221, 240, 260, 281, 303]
def an_p4 : List Nat := [61, 66, 72, 79, 87, 96, 106, 117, 129, 142, 156, 171, 187, 204, 222, 241, 261, 282, 304]
def an_p5 : List Nat := [59, 64, 70, 77, 85, 94, 104, 115, 127, 140, 154, 169, 185, 202, 220, 239, 259, 280, 302]
def an_ec (i : Nat) : Bool := decide (an_F[an_p1.getD i 0]? = some (Cond.exactly (am_te i) "ListDesk$Word")) && decide (an_F[an_p2.getD i 0]? = some (Cond.eq (.field (am_te i) "java/lang/Enum" "ordinal" "I") (.int (Int32.ofNat i)))) && decide (an_F[an_p3.getD i 0]? = some (Cond.eq (.field (am_te i) "ListDesk$Word" "operands" "I") (.int (am_opn.getD i 0)))) && decide (an_F[an_p4.getD i 0]? = some (Cond.eq (.field (am_te i) "ListDesk$Word" "order" "I") (.int (am_ord.getD i 0)))) && decide (an_F[an_p5.getD i 0]? = some (Cond.eq (.field (am_te i) "ListDesk$Word" "text" "Ljava/lang/String;") (am_tm i)))
theorem an_e : (List.range 19).all an_ec = true := by decide +kernel
theorem an_e0 {i : Nat} (hi : i < 19) : Cond.exactly (am_te i) "ListDesk$Word" ∈ flatC am_gn ∧ Cond.eq (.field (am_te i) "java/lang/Enum" "ordinal" "I") (.int (Int32.ofNat i)) ∈ flatC am_gn ∧ Cond.eq (.field (am_te i) "ListDesk$Word" "operands" "I") (.int (am_opn.getD i 0)) ∈ flatC am_gn ∧ Cond.eq (.field (am_te i) "ListDesk$Word" "order" "I") (.int (am_ord.getD i 0)) ∈ flatC am_gn ∧ Cond.eq (.field (am_te i) "ListDesk$Word" "text" "Ljava/lang/String;") (am_tm i) ∈ flatC am_gn := by
  have h := List.all_eq_true.mp an_e i (List.mem_range.mpr hi)
  unfold an_ec at h
  simp only [Bool.and_eq_true] at h
  obtain ⟨⟨⟨⟨h1, h2⟩, h3⟩, h4⟩, h5⟩ := h
  exact ⟨an_in h1, an_in h2, an_in h3, an_in h4, an_in h5⟩
abbrev am_tsw : Term := .static "ListDesk$1" "$SwitchMap$ListDesk$Word" "[I"
abbrev am_tal : Term := .static "ListDesk$Word" "ALL" "[LListDesk$Word;"
theorem an_w1 : (Cond.arrayOf am_tsw .int) ∈ flatC am_gn := an_in (i := 36) (by decide +kernel)
theorem an_w2 : (Cond.eq (.length am_tsw) (.int 19)) ∈ flatC am_gn := an_in (i := 37) (by decide +kernel)
theorem an_w : (List.range 19).all (fun j => decide (an_F[38 + j]? = some (Cond.eq (.elem am_tsw (.int (Int32.ofNat j))) (.int (am_sw.getD j 0))))) = true := by decide +kernel
theorem an_w3 : ∀ j, j < 19 → (Cond.eq (.elem am_tsw (.int (Int32.ofNat j))) (.int (am_sw.getD j 0))) ∈ flatC am_gn := fun j hj => an_in (List.all_eq_true.mp an_w j (List.mem_range.mpr hj))
theorem an_a1 : (Cond.arrayOf am_tal (.object "ListDesk$Word")) ∈ flatC am_gn := an_in (i := 8) (by decide +kernel)
theorem an_a2 : (Cond.eq (.length am_tal) (.int 19)) ∈ flatC am_gn := an_in (i := 9) (by decide +kernel)
theorem an_a : (List.range 19).all (fun j => decide (an_F[11 + j]? = some (Cond.eq (.elem am_tal (.int (Int32.ofNat j))) (am_te j)))) = true := by decide +kernel
theorem an_a3 : ∀ j, j < 19 → (Cond.eq (.elem am_tal (.int (Int32.ofNat j))) (am_te j)) ∈ flatC am_gn := fun j hj => an_in (List.all_eq_true.mp an_a j (List.mem_range.mpr hj))
def an_xp : List Nat := [443, 362, 403, 471, 493, 529, 565, 588, 611]
theorem an_x : (am_TH.zip an_xp).all (fun z => decide (an_F[z.2]? = some (Cond.exactly (.string z.1.1 z.1.2.2.1) "java/lang/String"))) = true := by decide +kernel
theorem an_x1 : ∀ q ∈ am_TH, (Cond.exactly (.string q.1 q.2.2.1) "java/lang/String") ∈ flatC am_gn := by
  intro q hq
  obtain ⟨i, hi⟩ := List.getElem?_of_mem hq
  have hl : i < am_TH.length := (List.getElem?_eq_some_iff.mp hi).1
  have hl2 : i < an_xp.length := hl
  have h2 : (am_TH.zip an_xp)[i]? = some (q, an_xp[i]) := by
    rw [List.getElem?_zip_eq_some]
    exact ⟨hi, List.getElem?_eq_getElem hl2⟩
  exact an_in (List.all_eq_true.mp an_x _ (List.mem_of_getElem? h2))
theorem an_x2 : ∀ q ∈ am_TH, (Cond.stringRef q.1 q.2.2.1 q.2.2.2.1) ∈ lw_tbl := by decide +kernel
theorem an_x3 : ∀ q ∈ am_TH, ∀ w ∈ am_tw q, w ∈ lw_tbl := by decide +kernel
theorem an_x4 : ∀ w ∈ am_cw, w ∈ lw_tbl := by decide +kernel
def an_cp (i j : Nat) : Nat := if i = 0 then (if j = 1 then 346 else 359) else if i = 1 then (if j = 0 then 333 else 360) else (if j = 0 then 335 else 348)
theorem an_cc : (List.range 3).all (fun i => (List.range 3).all (fun j => decide (i = j) || decide (an_F[an_cp i j]? = some (Cond.not (.castable (am_ex i) (am_ex j)))))) = true := by decide +kernel
theorem an_x5 : ∀ i, i < 3 → ∀ j, j < 3 → i ≠ j → (Cond.not (.castable (am_ex i) (am_ex j))) ∈ flatC am_gn := by
  intro i hi j hj hij
  have h := List.all_eq_true.mp (List.all_eq_true.mp an_cc i (List.mem_range.mpr hi)) j (List.mem_range.mpr hj)
  rw [Bool.or_eq_true] at h
  rcases h with h | h
  · exact absurd (of_decide_eq_true h) hij
  · exact an_in h
theorem an_c1 : (Cond.eq (.static "java/lang/String" "COMPACT_STRINGS" "Z") (.int 1)) ∈ flatC am_gn := an_in (i := 30) (by decide +kernel)
theorem an_c2 : (Cond.isRef (.static "jdk/internal/util/Preconditions" "SIOOBE_FORMATTER" "Ljava/util/function/BiFunction;")) ∈ flatC am_gn := an_in (i := 31) (by decide +kernel)
theorem an_c3 : (Cond.isRef (.static Bundle.tN "UNASSIGNED_STACK" Bundle.steD)) ∈ flatC am_gn := an_in (i := 4) (by decide +kernel)
theorem an_c4 : (Cond.isRef (.static Bundle.tN "SUPPRESSED_SENTINEL" Bundle.listD)) ∈ flatC am_gn := an_in (i := 5) (by decide +kernel)
theorem an_l : [Cond.laysStatic "ListDesk$1" "$SwitchMap$ListDesk$Word" "[I", .laysStatic "ListDesk$Word" "ALL" "[LListDesk$Word;", .laysStatic "java/lang/String" "COMPACT_STRINGS" "Z", .laysStatic "jdk/internal/util/Preconditions" "SIOOBE_FORMATTER" "Ljava/util/function/BiFunction;", .laysStatic Bundle.tN "UNASSIGNED_STACK" Bundle.steD, .laysStatic Bundle.tN "SUPPRESSED_SENTINEL" Bundle.listD, .initialized "ListDesk$1", .initialized "ListDesk$Word", .initialized "java/lang/String", .initialized "jdk/internal/util/Preconditions", .initialized Bundle.tN, .stringRef "ListDesk$Reader" 96 "nil"].all (fun w => decide (w ∈ lw_tbl)) = true := by decide +kernel
theorem am_ex_ref {args : Array Value} {s : State} {t : Term} {C : String} (h : (Cond.exactly t C).before args s = true) {A : Nat → Prop} (hA : ∀ a : Nat, a < s.heap.size → ¬ A a) : ∃ a : Nat, t.eval args s none [] s = some (.ref a) ∧ va_O C a A s s.heap := by
  obtain ⟨a, c, cell, k, q1, q2, q3, q4, q5, q6, -⟩ := Cond.exactly_spec (args := args) (first := s) (o := none) (s := s) (idx := []) (t := t) (cls := C) h
  exact ⟨a, q1, cell, q3, q5, by rw [q6]; exact q2, hA a (Array.getElem?_eq_some_iff.mp q3).1⟩
theorem am_ac_of {args : Array Value} {s : State} {ty : FieldType} (hp : (∀ C, ty ≠ .object C)) (h : (Cond.arrayClass ty).before args s = true) : ∃ cA : ClassId, ArrOfT s cA ty ∧ va_RA s cA ty := by
  obtain ⟨cA, kA, comp, hfind, hk, hkind⟩ := Cond.arrayClass_spec h
  refine ⟨cA, fun n z => ⟨fun k h => (by cases h), kA, hk, comp, hkind⟩, ?_⟩
  cases ty <;> first | exact hfind | exact absurd rfl (hp _)
/-- where the things stand -/
def am_rho (B : Nat) (eE eK : Nat → Nat) (tS tA b : Nat) : Nat → Nat := fun i => if i < 1000 then B + i else if i < 1019 then eE (i - 1000) else if i < 1100 then 0 else if i < 1120 then eK (i - 1100) else if i = 1200 then tA else if i = 1201 then tS else b
set_option maxHeartbeats 4000000 in
theorem am_begin {s : State} {b L : Nat} {xs : Nat → Int32} (hts : ∀ w ∈ lw_tbl, w.before #[Value.ref b] s = true) (hX : va_X b L xs s s.heap) (hbl : b < s.heap.size) (hgv : am_gn.before #[Value.ref b] s = true) :
    ∃ (ρ : Nat → Nat) (D : va_G) (cI cJ cZ : ClassId), am_ρ ρ s.heap ∧ ρ 2000 = b ∧ am_U ρ D cI cJ cZ s.heap (L, xs) s ∧ am_V s.heap s ∧ am_Rep ρ D cI cJ cZ s.heap ([], 0, 0) s.heap := by
  have hn := flat_of_before _ hgv
  have hA : ∀ a : Nat, a < s.heap.size → ¬ am_A s.heap a := fun a h => Nat.not_le.mpr h
  have htsA : ∀ w ∈ amTb, w.before #[Value.ref b] s = true := fun w h => hts w (List.mem_filter.mp h).1
  have hin : ∀ w ∈ [Cond.laysStatic "ListDesk$1" "$SwitchMap$ListDesk$Word" "[I", .laysStatic "ListDesk$Word" "ALL" "[LListDesk$Word;", .laysStatic "java/lang/String" "COMPACT_STRINGS" "Z", .laysStatic "jdk/internal/util/Preconditions" "SIOOBE_FORMATTER" "Ljava/util/function/BiFunction;", .laysStatic Bundle.tN "UNASSIGNED_STACK" Bundle.steD, .laysStatic Bundle.tN "SUPPRESSED_SENTINEL" Bundle.listD, .initialized "ListDesk$1", .initialized "ListDesk$Word", .initialized "java/lang/String", .initialized "jdk/internal/util/Preconditions", .initialized Bundle.tN, .stringRef "ListDesk$Reader" 96 "nil"], w.before #[Value.ref b] s = true := fun w h => hts w (of_decide_eq_true (List.all_eq_true.mp an_l w h))
  simp only [List.mem_cons, List.not_mem_nil, or_false, forall_eq_or_imp, forall_eq] at hin
  obtain ⟨l1, l2, l3, l4, l5, l6, i1, i2, i3, i4, i5, r1⟩ := hin
  have hE : ∀ i : Nat, ∃ a : Nat, i < 19 → (am_te i).eval #[Value.ref b] s none [] s = some (.ref a) ∧ va_O "ListDesk$Word" a (am_A s.heap) s s.heap := fun i => by
    by_cases hi : i < 19
    · obtain ⟨a, h1⟩ := am_ex_ref (hn _ (an_e0 hi).1) hA
      exact ⟨a, fun _ => h1⟩
    · exact ⟨0, fun h => absurd h hi⟩
  obtain ⟨eE, heE⟩ := Classical.axiomOfChoice hE
  have hK : ∀ i : Nat, ∃ q : Nat × Nat, i < 20 → (am_tm i).eval #[Value.ref b] s none [] s = some (.ref q.1) ∧ va_O "java/lang/String" q.1 (am_A s.heap) s s.heap ∧ va_OF "java/lang/String" "coder" "B" (.int 0) q.1 (am_A s.heap) s s.heap ∧ va_OF "java/lang/String" "value" "[B" (.ref q.2) q.1 (am_A s.heap) s s.heap ∧ va_T .byte q.2 (am_lens.getD i 0) (fun j => .int ((am_tx.getD i []).getD j 0)) (am_A s.heap) s s.heap := fun i => by
    by_cases hi : i < 20
    · obtain ⟨a, h1, h2⟩ := am_ex_ref (hn _ (an_s0 hi).1) hA
      obtain ⟨t, ht, hT⟩ := va_Tof (f := fun j => .int ((am_tx.getD i []).getD j 0)) (A := am_A s.heap) (N := am_lens.getD i 0) (by have h := (aj_ch i hi); omega) (hn _ (an_s0 hi).2.2.1) (va_eqt (hn _ (an_s0 hi).2.2.2.1)) (fun j hj => va_eqt (hn _ ((an_s0 hi).2.2.2.2 j hj))) hA
      exact ⟨(a, t), fun _ => ⟨h1, h2, vk_OFof h1 (va_eqt (hn _ (an_s0 hi).2.1)) hA, vk_OFof h1 ht hA, hT⟩⟩
    · exact ⟨(0, 0), fun h => absurd h hi⟩
  obtain ⟨eK, heK⟩ := Classical.axiomOfChoice hK
  obtain ⟨tS, htS, hTS⟩ := va_Tof (f := fun j => .int (am_sw.getD j 0)) (A := am_A s.heap) (N := 19) (by decide) (hn _ an_w1) (va_eqt (hn _ an_w2)) (fun j hj => va_eqt (hn _ (an_w3 j hj))) hA
  obtain ⟨tA, htA, hTA⟩ := va_Tof (f := fun j => .ref (eE j)) (A := am_A s.heap) (N := 19) (by decide) (hn _ an_a1) (va_eqt (hn _ an_a2)) (fun j hj => va_eqv (hn _ (an_a3 j hj)) (heE j hj).1) hA
  obtain ⟨cI, aI⟩ := am_ac_of (ty := .int) (fun C h => by cases h) (htsA _ am_ac_int)
  obtain ⟨cJ, aJ⟩ := am_ac_of (ty := .long) (fun C h => by cases h) (htsA _ am_ac_long)
  obtain ⟨cZ, aZ⟩ := am_ac_of (ty := .boolean) (fun C h => by cases h) (htsA _ am_ac_boolean)

  obtain ⟨c0, iS0, hKn0⟩ := u_known (C := RX1) (T := TX1) (N := 4) (n := 4) htsA inX1 (hts (.instantiable RX1 (4)) (by decide +kernel))
  obtain ⟨c1, iS1, hKn1⟩ := u_known (C := RX2) (T := TX2) (N := 10) (n := 10) htsA inX2 (hts (.instantiable RX2 (10)) (by decide +kernel))
  obtain ⟨c2, iS2, hKn2⟩ := u_known (C := RX3) (T := TX3) (N := 5) (n := 5) htsA inX3 (hts (.instantiable RX3 (5)) (by decide +kernel))
  obtain ⟨c3, iS3, hKn3⟩ := u_known (C := RX4) (T := TX4) (N := 15) (n := 15) htsA inX4 (hts (.instantiable RX4 (15)) (by decide +kernel))
  obtain ⟨c4, iS4, hKn4⟩ := u_known (C := RX5) (T := TX5) (N := 9) (n := 9) htsA inX5 (hts (.instantiable RX5 (9)) (by decide +kernel))
  obtain ⟨c5, iS5, hKn5⟩ := u_known (C := RX6) (T := TX6) (N := 2) (n := 2) htsA inX6 (hts (.instantiable RX6 (2)) (by decide +kernel))
  obtain ⟨c6, iS6, hKn6⟩ := u_known (C := RX7) (T := TX7) (N := 6) (n := 6) htsA inX7 (hts (.instantiable RX7 (6)) (by decide +kernel))
  obtain ⟨c7, iS7, hKn7⟩ := u_known (C := RX9) (T := TX9) (N := 4) (n := 4) htsA inX9 (hts (.instantiable RX9 (4)) (by decide +kernel))
  obtain ⟨c8, iS8, hKn8⟩ := u_known (C := RX12) (T := TX12) (N := 3) (n := 3) htsA inX12 (hts (.instantiable RX12 (3)) (by decide +kernel))
  obtain ⟨c9, iS9, hKn9⟩ := u_known (C := RX13) (T := TX13) (N := 58) (n := 58) htsA inX13 (hts (.instantiable RX13 (58)) (by decide +kernel))
  obtain ⟨dC, dI, hKc⟩ : ∃ (dC : Nat → ClassId) (dI : Nat → Nat → Nat), ∀ (k : Nat) (q : vw_C), vwCl[k]? = some q → u_Kn s q.1 q.2.1 q.2.2 (dC k) (dI k) := by
    refine ⟨fun k => match k with | 0 => c0 | 1 => c1 | 2 => c2 | 3 => c3 | 4 => c4 | 5 => c5 | 6 => c6 | 7 => c7 | 8 => c8 | _ => c9, fun k => match k with | 0 => iS0 | 1 => iS1 | 2 => iS2 | 3 => iS3 | 4 => iS4 | 5 => iS5 | 6 => iS6 | 7 => iS7 | 8 => iS8 | _ => iS9, ?_⟩
    intro k q hq
    match k, hq with
    | 0, hq => cases hq; exact hKn0
    | 1, hq => cases hq; exact hKn1
    | 2, hq => cases hq; exact hKn2
    | 3, hq => cases hq; exact hKn3
    | 4, hq => cases hq; exact hKn4
    | 5, hq => cases hq; exact hKn5
    | 6, hq => cases hq; exact hKn6
    | 7, hq => cases hq; exact hKn7
    | 8, hq => cases hq; exact hKn8
    | 9, hq => cases hq; exact hKn9
    | k + 10, hq => exact absurd (am_cls_lt hq) (by omega)
  refine ⟨am_rho s.heap.size eE (fun i => (eK i).1) tS tA b, (dC, dI), cI, cJ, cZ, fun i hi => if_pos hi, rfl, ⟨⟨hKc, ?_⟩, ?_, ⟨hX, hbl⟩, ⟨va_Zref l1 i1 htS hA, hTS⟩, ⟨va_Zref l2 i2 htA hA, ?_⟩, ?_, ?_, ?_⟩, ?_, ?_⟩
  · intro k q hq
    match k, hq with
    | 0, hq => cases hq; exact aI
    | 1, hq => cases hq; exact aJ
    | 2, hq => cases hq; exact aZ
    | k + 3, hq => simp at hq
  · intro a i n1 n2 d h
    exact va_Nw.of rfl (hts _ h)
  · have e1 : (fun j : Nat => Value.ref (am_rho s.heap.size eE (fun i => (eK i).1) tS tA b (1000 + j))) = fun j => Value.ref (if 1000 + j < 1019 then eE j else am_rho s.heap.size eE (fun i => (eK i).1) tS tA b (1000 + j)) := by
      funext j
      by_cases hj : 1000 + j < 1019
      · rw [if_pos hj]
        unfold am_rho
        rw [if_neg (by omega), if_pos hj, show 1000 + j - 1000 = j by omega]
      · rw [if_neg hj]
    obtain ⟨cell, g1, g2, g3, g4, g5, g6, g7⟩ := hTA
    refine ⟨cell, g1, g2, g3, g4, g5, fun j hj => ?_, g7⟩
    have h1 := g6 j hj
    rw [e1]
    show cell.slots[j]? = some (Value.ref (if 1000 + j < 1019 then eE j else _))
    rw [if_pos (by omega)]
    exact h1
  · intro i hi
    have e1 : am_rho s.heap.size eE (fun i => (eK i).1) tS tA b (1000 + i) = eE i := by
      unfold am_rho
      rw [if_neg (by omega), if_pos (by omega), show 1000 + i - 1000 = i by omega]
    have e2 : am_rho s.heap.size eE (fun i => (eK i).1) tS tA b (1100 + i) = (eK i).1 := by
      unfold am_rho
      rw [if_neg (by omega), if_neg (by omega), if_neg (by omega), if_pos (by omega), show 1100 + i - 1100 = i by omega]
    rw [e1, e2]
    obtain ⟨h1, h2⟩ := heE i hi
    exact ⟨h2, vk_OFof h1 (va_eqt (hn _ (an_e0 hi).2.1)) hA, vk_OFof h1 (va_eqt (hn _ (an_e0 hi).2.2.1)) hA, vk_OFof h1 (va_eqt (hn _ (an_e0 hi).2.2.2.1)) hA, vk_OFof h1 (va_eqv (hn _ (an_e0 hi).2.2.2.2) (heK i (by omega)).1) hA⟩
  · exact vk_R.of (A := #[Value.ref b]) r1 (heK 19 (by decide)).1
  · refine ⟨⟨fun i => (eK i).2, fun i hi => ?_⟩, va_Zof l3 i3 (va_eqi (hn _ an_c1)) hA, va_Zqof l4 i4 (hn _ an_c2) hA⟩
    have e2 : am_rho s.heap.size eE (fun i => (eK i).1) tS tA b (1100 + i) = (eK i).1 := by
      unfold am_rho
      rw [if_neg (by omega), if_neg (by omega), if_neg (by omega), if_pos (by omega), show 1100 + i - 1100 = i by omega]
    show va_O "java/lang/String" (am_rho s.heap.size eE (fun i => (eK i).1) tS tA b (1100 + i)) _ s _ ∧ va_OF _ _ _ _ (am_rho s.heap.size eE (fun i => (eK i).1) tS tA b (1100 + i)) _ s _ ∧ va_OF _ _ _ _ (am_rho s.heap.size eE (fun i => (eK i).1) tS tA b (1100 + i)) _ s _ ∧ _
    rw [e2]
    exact (heK i hi).2
  · refine ⟨vx_Zqof l5 i5 (hn _ an_c3) hA, vx_Zqof l6 i5 (hn _ an_c4) hA, fun q hq => ?_, fun q hq w hw => ?_, fun w hw => ?_, fun i j hi hj hij => va_Nc.of (hn _ (an_x5 i hi j hj hij))⟩
    · obtain ⟨a, h1, -⟩ := am_ex_ref (A := am_A s.heap) (hn _ (an_x1 q hq)) hA
      exact ⟨a, vk_R.of (A := #[Value.ref b]) (hts _ (an_x2 q hq)) h1⟩
    · obtain ⟨-, k2, -⟩ := (am_tw_get hq).1 w hw
      exact va_tabs k2 rfl (hts _ (an_x3 q hq w hw))
    · have k := List.all_eq_true.mp am_cw_ok w hw
      simp only [Bool.and_eq_true] at k
      exact va_tabs k.2 rfl (hts _ (an_x4 w hw))
  · exact ⟨fun k q h => by simp [am_ws] at h, Nat.zero_le _, fun _ => rfl, Nat.le_refl _, fun _ _ => rfl⟩
