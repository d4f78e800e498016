/-! the library's own members: String.length, String.charAt, Enum.ordinal -/
section JDK
variable {p : Program} {l : Launch} {e : Env} {R : Room} {s : State} {m : MethodId} {args : Array Value} {below : List Frame} {meth : Method} {c : Code} {H : Heap} {locs : List Loc} {cells slots : Nat} {Q : State → Prop}
variable {ρ : Nat → Nat} {D : va_G} {cI cJ cZ : ClassId} {Hb : Heap} {X : amX}
/-- a member that writes nothing: what it answers -/
def aj_Q (v : Option Value) : Array Value → State → Outcome → State → Prop := fun _ st o t => o = .returned v ∧ t.heap = st.heap
def aj_P (ρ : Nat → Nat) (D : va_G) (cI cJ cZ : ClassId) (Hb : Heap) (X : amX) (as : List Value) : Array Value → State → Prop := fun v U => v = as.toArray ∧ am_U ρ D cI cJ cZ Hb X U ∧ am_Ba Hb U.heap
theorem aj_blind {as : List Value} : FrameBlind (aj_P ρ D cI cJ cZ Hb X as) := fun a U g mk q => ⟨q.1, am_U.warm (s := U) (U := U.calling g mk a) (State.WarmedH.refl U) q.2.1, q.2.2⟩
theorem aj_call {v : Option Value} {g : JFrame} {rest : List Value} {a : Array Value} (hr : CallRun p l e R s m args below meth c H locs cells slots 0 0 g rest (aj_Q v a) (fun _ => False)) (kk : W p l e R s m args below meth c H locs cells slots Q { g with pc := g.pc + 3, stack := v.toList ++ rest }) : W p l e R s m args below meth c H locs cells slots Q g := by
  intro T hT X
  obtain ⟨v', st₀, t, T', L, h0, X', hL, e1, ⟨hv, hh⟩, st⟩ := hr T hT X
  cases hv
  obtain ⟨t2, a1, b1⟩ := kk T' (by rw [e1, hh, h0]) (Stand.forget X' (fun q h => (hL q h).elim))
  exact ⟨t2, st t2 a1, b1⟩
abbrev aj_rm (d : Nat) : Room := { frames := d, cells := 0, slots := 0, locals := 40 * d }
def yj_coder : MethodName := ⟨"java/lang/String", "coder", "()B"⟩
def yj_length : MethodName := ⟨"java/lang/String", "length", "()I"⟩
def yj_isLatin1 : MethodName := ⟨"java/lang/String", "isLatin1", "()Z"⟩
def yj_charAt : MethodName := ⟨"java/lang/String", "charAt", "(I)C"⟩
def yj_check : MethodName := ⟨"java/lang/String", "checkIndex", "(II)V"⟩
def yj_lcharAt : MethodName := ⟨"java/lang/StringLatin1", "charAt", "([BI)C"⟩
def yj_pcheck : MethodName := ⟨"jdk/internal/util/Preconditions", "checkIndex", "(IILjava/util/function/BiFunction;)I"⟩
def yj_ordinal : MethodName := ⟨"java/lang/Enum", "ordinal", "()I"⟩
def yj_wordinal : MethodName := ⟨"ListDesk$Word", "ordinal", "()I"⟩
theorem wj_coder : Cond.code yj_coder prog_22_method_152_code 1 (some .byte) ∈ amTb := am_wd_in (i := 566) (by decide +kernel)
theorem wj_length : Cond.code yj_length prog_22_method_54_code 1 (some .int) ∈ amTb := am_wd_in (i := 562) (by decide +kernel)
theorem wj_isLatin1 : Cond.code yj_isLatin1 prog_22_method_154_code 1 (some .boolean) ∈ amTb := am_wd_in (i := 576) (by decide +kernel)
theorem wj_charAt : Cond.code yj_charAt prog_22_method_56_code 2 (some .char) ∈ amTb := am_wd_in (i := 572) (by decide +kernel)
theorem wj_check : Cond.code yj_check prog_22_method_155_code 2 none ∈ amTb := am_wd_in (i := 582) (by decide +kernel)
theorem wj_lcharAt : Cond.code yj_lcharAt prog_23_method_2_code 2 (some .char) ∈ amTb := am_wd_in (i := 579) (by decide +kernel)
theorem wj_pcheck : Cond.code yj_pcheck prog_26_method_11_code 3 (some .int) ∈ amTb := am_wd_in (i := 587) (by decide +kernel)
theorem wj_ordinal : Cond.code yj_ordinal prog_16_method_2_code 1 (some .int) ∈ amTb := am_wd_in (i := 672) (by decide +kernel)
theorem wj_i1 : Cond.initialized "java/lang/String" ∈ amTb := am_wd_in (i := 102) (by decide +kernel)
theorem wj_i2 : Cond.initialized "java/lang/StringLatin1" ∈ amTb := am_wd_in (i := 103) (by decide +kernel)
theorem wj_i3 : Cond.initialized "jdk/internal/util/Preconditions" ∈ amTb := am_wd_in (i := 104) (by decide +kernel)
theorem wj_i4 : Cond.initialized "java/lang/Enum" ∈ amTb := amTb_in (by decide +kernel) (by decide +kernel)
theorem wj_f38 : Cond.fieldLink "java/lang/String" 38 "java/lang/String" "COMPACT_STRINGS" "Z" ∈ amTb := am_wd_in (i := 567) (by decide +kernel)
theorem wj_f9 : Cond.fieldLink "java/lang/String" 9 "java/lang/String" "value" "[B" ∈ amTb := am_wd_in (i := 1449) (by decide +kernel)
theorem wj_f15 : Cond.fieldLink "java/lang/String" 15 "java/lang/String" "coder" "B" ∈ amTb := am_wd_in (i := 1450) (by decide +kernel)
theorem wj_f1053 : Cond.fieldLink "java/lang/String" 1053 "jdk/internal/util/Preconditions" "SIOOBE_FORMATTER" "Ljava/util/function/BiFunction;" ∈ amTb := am_wd_in (i := 583) (by decide +kernel)
theorem wj_f7 : Cond.fieldLink "java/lang/Enum" 7 "java/lang/Enum" "ordinal" "I" ∈ amTb := amTb_in (by decide +kernel) (by decide +kernel)
theorem aj_good {y : MethodName} {b : ByteArray} {n : Nat} {r : Option FieldType} (h : Cond.code y b n r ∈ amTb) : GoodIn amTb (.code y b n r :: amTb) := by
  intro w hw
  rcases List.mem_cons.mp hw with rfl | hw
  · exact am_good1 h
  · exact am_good1 hw
theorem aj_wsV {own : String} {ix : Nat} {y : MethodName} {b : ByteArray} {n : Nat} {r : Option FieldType} (h1 : Cond.methodLink own ix y ∈ amTb) (h2 : Cond.instanceMethod y ∈ amTb) (h3 : Cond.selects y.cls y y ∈ amTb) (h4 : Cond.initialized y.cls ∈ amTb) (h : Cond.code y b n r ∈ amTb) : GoodIn amTb (wsV own ix y.cls y (.code y b n r :: amTb)) := by
  intro w hw
  rcases List.mem_append.mp hw with h9 | h9
  · simp only [List.mem_cons, List.not_mem_nil, or_false] at h9
    rcases h9 with rfl | rfl | rfl | rfl
    · exact am_good1 h1
    · exact am_good1 h2
    · exact am_good1 h3
    · exact am_good1 h4
  · exact aj_good h w h9
theorem aj_wsS {own : String} {ix : Nat} {y : MethodName} {b : ByteArray} {n : Nat} {r : Option FieldType} (h1 : Cond.methodLink own ix y ∈ amTb) (h2 : Cond.static y ∈ amTb) (h4 : Cond.initialized y.cls ∈ amTb) (h : Cond.code y b n r ∈ amTb) : GoodIn amTb (va_wsS own ix y (.code y b n r :: amTb)) := by
  intro w hw
  rcases List.mem_append.mp hw with h9 | h9
  · simp only [List.mem_cons, List.not_mem_nil, or_false] at h9
    rcases h9 with rfl | rfl | rfl
    · exact am_good1 h1
    · exact am_good1 h2
    · exact am_good1 h4
  · exact aj_good h w h9
theorem wg_coder : GoodIn amTb (wsV "java/lang/String" 335 "java/lang/String" yj_coder (.code yj_coder prog_22_method_152_code 1 (some .byte) :: amTb)) := aj_wsV (am_wd_in (i := 563) (by decide +kernel)) (am_wd_in (i := 564) (by decide +kernel)) (am_wd_in (i := 565) (by decide +kernel)) wj_i1 wj_coder
theorem wg_isLatin1 : GoodIn amTb (wsV "java/lang/String" 492 "java/lang/String" yj_isLatin1 (.code yj_isLatin1 prog_22_method_154_code 1 (some .boolean) :: amTb)) := aj_wsV (am_wd_in (i := 573) (by decide +kernel)) (am_wd_in (i := 574) (by decide +kernel)) (am_wd_in (i := 575) (by decide +kernel)) wj_i1 wj_isLatin1
theorem wg_lcharAt : GoodIn amTb (va_wsS "java/lang/String" 495 yj_lcharAt (.code yj_lcharAt prog_23_method_2_code 2 (some .char) :: amTb)) := aj_wsS (am_wd_in (i := 577) (by decide +kernel)) (am_wd_in (i := 578) (by decide +kernel)) wj_i2 wj_lcharAt
theorem wg_check : GoodIn amTb (va_wsS "java/lang/StringLatin1" 9 yj_check (.code yj_check prog_22_method_155_code 2 none :: amTb)) := aj_wsS (am_wd_in (i := 580) (by decide +kernel)) (am_wd_in (i := 581) (by decide +kernel)) wj_i1 wj_check
theorem wg_pcheck : GoodIn amTb (va_wsS "java/lang/String" 1059 yj_pcheck (.code yj_pcheck prog_26_method_11_code 3 (some .int) :: amTb)) := aj_wsS (am_wd_in (i := 585) (by decide +kernel)) (am_wd_in (i := 586) (by decide +kernel)) wj_i3 wj_pcheck
theorem wg_lenT : GoodIn amTb (wsV "ListDesk$Tape" 46 "java/lang/String" yj_length (.code yj_length prog_22_method_54_code 1 (some .int) :: amTb)) := aj_wsV (am_wd_in (i := 559) (by decide +kernel)) (am_wd_in (i := 560) (by decide +kernel)) (am_wd_in (i := 561) (by decide +kernel)) wj_i1 wj_length
theorem wg_lenR : GoodIn amTb (wsV "ListDesk$Reader" 153 "java/lang/String" yj_length (.code yj_length prog_22_method_54_code 1 (some .int) :: amTb)) := aj_wsV (am_wd_in (i := 660) (by decide +kernel)) (am_wd_in (i := 560) (by decide +kernel)) (am_wd_in (i := 561) (by decide +kernel)) wj_i1 wj_length
theorem wg_charAt : GoodIn amTb (wsV "ListDesk$Tape" 50 "java/lang/String" yj_charAt (.code yj_charAt prog_22_method_56_code 2 (some .char) :: amTb)) := aj_wsV (am_wd_in (i := 569) (by decide +kernel)) (am_wd_in (i := 570) (by decide +kernel)) (am_wd_in (i := 571) (by decide +kernel)) wj_i1 wj_charAt
theorem wg_ordinal : GoodIn amTb (va_wsU "ListDesk$Reader" 175 "ListDesk$Word" "java/lang/Enum" yj_wordinal yj_ordinal (.code yj_ordinal prog_16_method_2_code 1 (some .int) :: amTb)) := by
  intro w hw
  rcases List.mem_append.mp hw with h9 | h9
  · simp only [List.mem_cons, List.not_mem_nil, or_false] at h9
    rcases h9 with rfl | rfl | rfl | rfl | rfl
    · exact am_good1 (am_wd_in (i := 667) (by decide +kernel))
    · exact am_good1 (am_wd_in (i := 668) (by decide +kernel))
    · exact am_good1 (am_wd_in (i := 670) (by decide +kernel))
    · exact am_good1 (am_wd_in (i := 671) (by decide +kernel))
    · exact am_good1 wj_i4
  · exact aj_good wj_ordinal w h9
theorem aj_keep (hBs : am_Ba Hb s.heap) : ∀ q : Nat, q < Hb.size → ¬ am_A Hb q → s.heap[q]? = Hb[q]? := fun q h3 _ => hBs.2 q h3
set_option maxHeartbeats 4000000 in
theorem cj_coder (l : Launch) {i : Nat} (hi : i < 20) : Met l yj_coder (.code yj_coder prog_22_method_152_code 1 (some .byte) :: amTb) (aj_rm 0) (aj_P ρ D cI cJ cZ Hb X [.ref (ρ (1100 + i))]) (aj_Q (some (.int 0))) 0 0 (fun _ => False) := by
  refine Met.ofW (cc := prog_22_method_152_code) (maxL := 1) (ret := (some .byte)) (by decide) rfl ?_
  intro p e s m args below meth c s₁ B hml hv
  obtain ⟨rfl, hU, hBs⟩ := hv
  have hx := B.exec
  have hb := B.bytes
  have hr := B.returns
  have hts : ∀ w ∈ amTb, w.before _ s = true := fun w hw => atoms_spec (ws := .code yj_coder prog_22_method_152_code 1 (some .byte) :: amTb) B.pre w (List.mem_cons_of_mem _ hw)
  have hown : s.vm.findClass "java/lang/String" = some m.cls := findClass_of_methodNamed B.named
  have hlocks := B.notSynchronized
  have hl := lv_entry ([.ref (ρ (1100 + i))]) (n := 1) (Nat.le_of_ble_eq_true rfl)
  rw [lg_entry_eq]
  generalize (lg_sl ([.ref (ρ (1100 + i))]) ++ List.replicate (1 - (lg_sl ([.ref (ρ (1100 + i))])).length) Slot.unset).toArray = ls at hl ⊢
  have hl : lv_has ls 1 [(0, .ref (ρ (1100 + i)))] := hl
  obtain ⟨⟨adV, hS⟩, hZ, -⟩ := hU.2.2.2.2.2.2.2
  have hk := aj_keep hBs
  refine va_gets hx hb (hZ.kept hk) va_S.rf hown (hts _ wj_f38) (fun _ h9 => h9) (by decide +kernel) ?_
  refine lv_if_eq (tgt := 13) hx hb (pc := 3) (off := 10) (by decide +kernel) (by decide) (fun c9 => absurd c9 (by decide)) (fun _ => ?_)
  refine lv_aload_n (k := 0) hx hb (by decide +kernel) rfl (lv_at hl 0 rfl) ?_
  refine vk_getf hx hb ((hS i hi).2.1.kept hk) va_S.rf hown (hts _ wj_f15) (fun _ h9 => h9) (by decide +kernel) ?_
  refine lv_goto (tgt := 14) (off := 4) hx hb (by decide +kernel) (by decide) ?_
  exact W.zret (ty := .byte) hx hb hr (by decide) (fun t ht _ => ⟨rfl, ht⟩) (fun q hq => by cases hq) (by decide +kernel) hlocks
set_option maxHeartbeats 4000000 in
theorem cj_isLatin1 (l : Launch) {i : Nat} (hi : i < 20) : Met l yj_isLatin1 (.code yj_isLatin1 prog_22_method_154_code 1 (some .boolean) :: amTb) (aj_rm 0) (aj_P ρ D cI cJ cZ Hb X [.ref (ρ (1100 + i))]) (aj_Q (some (.int 1))) 0 0 (fun _ => False) := by
  refine Met.ofW (cc := prog_22_method_154_code) (maxL := 1) (ret := (some .boolean)) (by decide) rfl ?_
  intro p e s m args below meth c s₁ B hml hv
  obtain ⟨rfl, hU, hBs⟩ := hv
  have hx := B.exec
  have hb := B.bytes
  have hr := B.returns
  have hts : ∀ w ∈ amTb, w.before _ s = true := fun w hw => atoms_spec (ws := .code yj_isLatin1 prog_22_method_154_code 1 (some .boolean) :: amTb) B.pre w (List.mem_cons_of_mem _ hw)
  have hown : s.vm.findClass "java/lang/String" = some m.cls := findClass_of_methodNamed B.named
  have hlocks := B.notSynchronized
  have hl := lv_entry ([.ref (ρ (1100 + i))]) (n := 1) (Nat.le_of_ble_eq_true rfl)
  rw [lg_entry_eq]
  generalize (lg_sl ([.ref (ρ (1100 + i))]) ++ List.replicate (1 - (lg_sl ([.ref (ρ (1100 + i))])).length) Slot.unset).toArray = ls at hl ⊢
  have hl : lv_has ls 1 [(0, .ref (ρ (1100 + i)))] := hl
  obtain ⟨⟨adV, hS⟩, hZ, -⟩ := hU.2.2.2.2.2.2.2
  have hk := aj_keep hBs
  refine va_gets hx hb (hZ.kept hk) va_S.rf hown (hts _ wj_f38) (fun _ h9 => h9) (by decide +kernel) ?_
  refine lv_if_eq (tgt := 17) (off := 14) hx hb (by decide +kernel) (by decide) (fun c9 => absurd c9 (by decide)) (fun _ => ?_)
  refine lv_aload_n (k := 0) hx hb (by decide +kernel) rfl (lv_at hl 0 rfl) ?_
  refine vk_getf hx hb ((hS i hi).2.1.kept hk) va_S.rf hown (hts _ wj_f15) (fun _ h9 => h9) (by decide +kernel) ?_
  refine lv_if_ne (tgt := 17) (off := 7) hx hb (by decide +kernel) (by decide) (fun c9 => absurd rfl c9) (fun _ => ?_)
  refine lv_iconst (n := 1) (v := 1) hx hb (by decide +kernel) (by decide) ?_
  refine lv_goto (tgt := 18) (off := 4) hx hb (by decide +kernel) (by decide) ?_
  exact W.zret (ty := .boolean) hx hb hr (by decide) (fun t ht _ => ⟨rfl, ht⟩) (fun q hq => by cases hq) (by decide +kernel) hlocks
theorem aj_recv (hU : am_U ρ D cI cJ cZ Hb X s) (hB : am_Ba Hb H) {i : Nat} (hi : i < 20) : ∃ cell : Cell, H[ρ (1100 + i)]? = some cell ∧ cell.vm.isStatics = false ∧ s.vm.findClass "java/lang/String" = some cell.cls := by
  obtain ⟨⟨adV, hS⟩, -⟩ := hU.2.2.2.2.2.2.2
  obtain ⟨cell, h1, h2, h3, -⟩ := (hS i hi).1.kept (H1 := H) (fun q h3 _ => hB.2 q h3)
  exact ⟨cell, h1, h2, h3⟩
set_option maxHeartbeats 4000000 in
theorem cj_length (l : Launch) {i : Nat} (hi : i < 20) : Met l yj_length (.code yj_length prog_22_method_54_code 1 (some .int) :: amTb) (aj_rm 1) (aj_P ρ D cI cJ cZ Hb X [.ref (ρ (1100 + i))]) (aj_Q (some (.int (Int32.ofNat (am_lens.getD i 0))))) 0 0 (fun _ => False) := by
  refine Met.ofW (cc := prog_22_method_54_code) (maxL := 1) (ret := (some .int)) (by decide) rfl ?_
  intro p e s m args below meth c s₁ B hml hv
  obtain ⟨rfl, hU, hBs⟩ := hv
  have hx := B.exec
  have hb := B.bytes
  have hr := B.returns
  have hts : ∀ w ∈ amTb, w.before ([.ref (ρ (1100 + i))] : List Value).toArray s = true := fun w hw => atoms_spec (ws := .code yj_length prog_22_method_54_code 1 (some .int) :: amTb) B.pre w (List.mem_cons_of_mem _ hw)
  have hown : s.vm.findClass "java/lang/String" = some m.cls := findClass_of_methodNamed B.named
  have hlocks := B.notSynchronized
  have hl := lv_entry ([.ref (ρ (1100 + i))]) (n := 1) (Nat.le_of_ble_eq_true rfl)
  rw [lg_entry_eq]
  generalize (lg_sl ([.ref (ρ (1100 + i))]) ++ List.replicate (1 - (lg_sl ([.ref (ρ (1100 + i))])).length) Slot.unset).toArray = ls at hl ⊢
  have hl : lv_has ls 1 [(0, .ref (ρ (1100 + i)))] := hl
  obtain ⟨⟨adV, hS⟩, hZ, -⟩ := hU.2.2.2.2.2.2.2
  have hk := aj_keep hBs
  refine lv_aload_n (k := 0) hx hb (by decide +kernel) rfl (lv_at hl 0 rfl) ?_
  refine vk_getf hx hb ((hS i hi).2.2.1.kept hk) va_S.rf hown (hts _ wj_f9) (fun _ h9 => h9) (by decide +kernel) ?_
  refine va_tlen hx hb ((hS i hi).2.2.2.kept hk) va_S.rf rfl (by decide +kernel) ?_
  refine lv_aload_n (k := 0) hx hb (by decide +kernel) rfl (lv_at hl 0 rfl) ?_
  refine aj_call (v := some (.int 0)) (W.runV (As := []) (rest := [.int (Int32.ofNat (am_lens.getD i 0))]) (index := 335) ⟨hx, hb, hml, hown, hts⟩ (cj_coder (X := X) l hi) (cwV 0 hts wg_coder rfl rfl rfl (by decide +kernel) ⟨Nat.le_refl _, by decide⟩) ⟨aj_blind, aj_recv hU hBs hi, fun U hU1 hW => ⟨rfl, am_U.warm hW hU, by rw [hU1]; exact hBs⟩⟩ rfl rfl hl.1 rfl (lv_room (Nat.le_of_ble_eq_true rfl)) (show decode prog_22_method_54_code 6 = .ok (.invokevirtual 335, 3) by decide +kernel) ⟨Nat.le_refl _, Nat.le_refl _⟩) ?_
  refine W.eq (g2 := F0 m 9 ls [.int 0, .int (Int32.ofNat (am_lens.getD i 0))]) rfl ?_
  refine lv_ishr hx hb (by decide +kernel) ?_
  rw [sb_shr0]
  exact W.iret hx hb hr (fun t ht _ => ⟨rfl, ht⟩) (fun q hq => by cases hq) (by decide +kernel) hlocks
set_option maxHeartbeats 4000000 in
theorem cj_pcheck (l : Launch) {x n : Int32} {v : Value} (hv : v = .null ∨ ∃ t, v = .ref t) (h0 : ¬ x < 0) (hn : x < n) : Met l yj_pcheck (.code yj_pcheck prog_26_method_11_code 3 (some .int) :: amTb) (aj_rm 0) (aj_P ρ D cI cJ cZ Hb X [.int x, .int n, v]) (aj_Q (some (.int x))) 0 0 (fun _ => False) := by
  refine Met.ofW (cc := prog_26_method_11_code) (maxL := 3) (ret := (some .int)) (by decide) rfl ?_
  intro p e s m args below meth c s₁ B hml hvv
  obtain ⟨rfl, hU, hBs⟩ := hvv
  have hx := B.exec
  have hb := B.bytes
  have hr := B.returns
  have hlocks := B.notSynchronized
  have hcat : v.category = 1 := by rcases hv with rfl | ⟨t, rfl⟩ <;> rfl
  have hsl : (lg_sl [.int x, .int n, v]).length = 3 := by
    rcases hv with rfl | ⟨t, rfl⟩ <;> rfl
  have hl := lv_entry ([.int x, .int n, v]) (n := 3) (by rw [hsl]; exact Nat.le_refl _)
  rw [lg_entry_eq]
  generalize (lg_sl ([.int x, .int n, v]) ++ List.replicate (3 - (lg_sl ([.int x, .int n, v])).length) Slot.unset).toArray = ls at hl ⊢
  have hl : lv_has ls 3 [(0, .int x), (1, .int n), (2, v)] := hl
  refine lv_iload_n (k := 0) hx hb (by decide +kernel) rfl (lv_at hl 0 rfl) ?_
  refine lv_if_lt (tgt := 9) (off := 8) hx hb (by decide +kernel) (by decide) (fun c9 => absurd c9 h0) (fun _ => ?_)
  refine lv_iload_n (k := 0) hx hb (by decide +kernel) rfl (lv_at hl 0 rfl) ?_
  refine lv_iload_n (k := 1) hx hb (by decide +kernel) rfl (lv_at hl 1 rfl) ?_
  refine lv_icmp_lt (tgt := 16) (off := 10) hx hb (by decide +kernel) (by decide) (fun _ => ?_) (fun c9 => absurd hn c9)
  refine lv_iload_n (k := 0) hx hb (by decide +kernel) rfl (lv_at hl 0 rfl) ?_
  exact W.iret hx hb hr (fun t ht _ => ⟨rfl, ht⟩) (fun q hq => by cases hq) (by decide +kernel) hlocks
set_option maxHeartbeats 4000000 in
theorem cj_check (l : Launch) {x n : Int32} (h0 : ¬ x < 0) (hn : x < n) : Met l yj_check (.code yj_check prog_22_method_155_code 2 none :: amTb) (aj_rm 1) (aj_P ρ D cI cJ cZ Hb X [.int x, .int n]) (aj_Q none) 0 0 (fun _ => False) := by
  refine Met.ofW (cc := prog_22_method_155_code) (maxL := 2) (ret := none) (by decide) rfl ?_
  intro p e s m args below meth c s₁ B hml hv
  obtain ⟨rfl, hU, hBs⟩ := hv
  have hx := B.exec
  have hb := B.bytes
  have hr := B.returns
  have hts : ∀ w ∈ amTb, w.before ([.int x, .int n] : List Value).toArray s = true := fun w hw => atoms_spec (ws := .code yj_check prog_22_method_155_code 2 none :: amTb) B.pre w (List.mem_cons_of_mem _ hw)
  have hown : s.vm.findClass "java/lang/String" = some m.cls := findClass_of_methodNamed B.named
  have hlocks := B.notSynchronized
  have hl := lv_entry ([.int x, .int n]) (n := 2) (Nat.le_of_ble_eq_true rfl)
  rw [lg_entry_eq]
  generalize (lg_sl ([.int x, .int n]) ++ List.replicate (2 - (lg_sl ([.int x, .int n])).length) Slot.unset).toArray = ls at hl ⊢
  have hl : lv_has ls 2 [(0, .int x), (1, .int n)] := hl
  obtain ⟨-, -, hZq⟩ := hU.2.2.2.2.2.2.2
  have hk := aj_keep hBs
  refine lv_iload_n (k := 0) hx hb (by decide +kernel) rfl (lv_at hl 0 rfl) ?_
  refine lv_iload_n (k := 1) hx hb (by decide +kernel) rfl (lv_at hl 1 rfl) ?_
  obtain ⟨v, hv, hZ⟩ : ∃ v : Value, (v = .null ∨ ∃ t, v = .ref t) ∧ va_Z "jdk/internal/util/Preconditions" "SIOOBE_FORMATTER" "Ljava/util/function/BiFunction;" v (am_A Hb) s Hb := by
    rcases hZq with h9 | ⟨t, h9⟩
    · exact ⟨_, Or.inl rfl, h9⟩
    · exact ⟨_, Or.inr ⟨t, rfl⟩, h9⟩
  refine va_gets hx hb (hZ.kept hk) va_S.rf hown (hts _ wj_f1053) (fun _ h9 => h9) (by decide +kernel) ?_
  refine aj_call (v := some (.int x)) (W.runS (As := [.int x, .int n, v]) (rest := []) (index := 1059) ⟨hx, hb, hml, hown, hts⟩ (cj_pcheck (X := X) l hv h0 hn) (va_cwS 3 hts wg_pcheck rfl rfl rfl (by decide +kernel) ⟨Nat.le_refl _, by decide⟩) ⟨aj_blind, fun U hU1 hW => ⟨rfl, am_U.warm hW hU, by rw [hU1]; exact hBs⟩⟩ rfl rfl hl.1 rfl (lv_room (Nat.le_of_ble_eq_true rfl)) (show decode prog_22_method_155_code 5 = .ok (.invokestatic 1059, 3) by decide +kernel) ⟨Nat.le_refl _, Nat.le_refl _⟩) ?_
  refine W.eq (g2 := F0 m 8 ls [.int x]) rfl ?_
  refine lv_pop hx hb (by decide +kernel) rfl ?_
  exact W.vret hx hb hr (fun t ht _ => ⟨rfl, ht⟩) (fun q hq => by cases hq) (by decide +kernel) hlocks
/-- the char at k of text i -/
theorem aj_ch : ∀ i, i < 20 → am_lens.getD i 0 = (am_tx.getD i []).length ∧ (am_tx.getD i []).length < 100 ∧ ∀ b ∈ am_tx.getD i [], (((b &&& 255).toUInt32 % 65536).toInt32 = b ∧ narrow .char (.int b) = .int b) := by decide +kernel
theorem aj_at {i k : Nat} (hi : i < 20) (hk : k < am_lens.getD i 0) : (((((am_tx.getD i []).getD k 0) &&& 255).toUInt32 % 65536).toInt32 = (am_tx.getD i []).getD k 0) ∧ narrow .char (.int ((am_tx.getD i []).getD k 0)) = .int ((am_tx.getD i []).getD k 0) := by
  obtain ⟨h1, h2, h3⟩ := aj_ch i hi
  have hk2 : k < (am_tx.getD i []).length := by omega
  refine h3 _ ?_
  generalize am_tx.getD i [] = L at hk2 ⊢
  rw [List.getD_eq_getElem?_getD, List.getElem?_eq_getElem hk2]
  exact List.getElem_mem hk2
set_option maxHeartbeats 4000000 in
theorem cj_lcharAt (l : Launch) {i : Nat} {x : Int32} (hi : i < 20) (hx0 : vp_in x (am_lens.getD i 0)) {av : Nat} : Met l yj_lcharAt (.code yj_lcharAt prog_23_method_2_code 2 (some .char) :: amTb) (aj_rm 2) (fun v U => aj_P ρ D cI cJ cZ Hb X [.ref av, .int x] v U ∧ va_T .byte av (am_lens.getD i 0) (fun j => .int ((am_tx.getD i []).getD j 0)) (am_A Hb) U Hb) (aj_Q (some (.int ((am_tx.getD i []).getD x.toNatClampNeg 0)))) 0 0 (fun _ => False) := by
  refine Met.ofW (cc := prog_23_method_2_code) (maxL := 2) (ret := (some .char)) (by decide) rfl ?_
  intro p e s m args below meth c s₁ B hml hv
  obtain ⟨⟨rfl, hU, hBs⟩, hT⟩ := hv
  have hx := B.exec
  have hb := B.bytes
  have hr := B.returns
  have hts : ∀ w ∈ amTb, w.before ([.ref av, .int x] : List Value).toArray s = true := fun w hw => atoms_spec (ws := .code yj_lcharAt prog_23_method_2_code 2 (some .char) :: amTb) B.pre w (List.mem_cons_of_mem _ hw)
  have hown : s.vm.findClass "java/lang/StringLatin1" = some m.cls := findClass_of_methodNamed B.named
  have hlocks := B.notSynchronized
  have hl := lv_entry ([.ref av, .int x]) (n := 2) (Nat.le_of_ble_eq_true rfl)
  rw [lg_entry_eq]
  generalize (lg_sl ([.ref av, .int x]) ++ List.replicate (2 - (lg_sl ([.ref av, .int x])).length) Slot.unset).toArray = ls at hl ⊢
  have hl : lv_has ls 2 [(0, .ref av), (1, .int x)] := hl
  have hk := aj_keep hBs
  obtain ⟨a1, a2, a3⟩ := aj_ch i hi
  have hlt : x.toNatClampNeg < am_lens.getD i 0 := Nat.not_le.mp fun q => hx0 (Or.inr q)
  have h0 : ¬ x < 0 := fun q => hx0 (Or.inl q)
  obtain ⟨j, hj, rfl⟩ := nI_of h0
  rw [nI_clamp hj] at hlt ⊢
  have hxn : nI j < Int32.ofNat (am_lens.getD i 0) := nI_lt hlt (by omega)
  refine lv_iload_n (k := 1) hx hb (by decide +kernel) rfl (lv_at hl 1 rfl) ?_
  refine lv_aload_n (k := 0) hx hb (by decide +kernel) rfl (lv_at hl 0 rfl) ?_
  refine va_tlen hx hb (hT.kept hk) va_S.rf rfl (by decide +kernel) ?_
  refine aj_call (v := none) (W.runS (As := [.int (nI j), .int (Int32.ofNat (am_lens.getD i 0))]) (rest := []) (index := 9) ⟨hx, hb, hml, hown, hts⟩ (cj_check (X := X) l h0 hxn) (va_cwS 2 hts wg_check rfl rfl rfl (by decide +kernel) ⟨Nat.le_refl _, by decide⟩) ⟨aj_blind, fun U hU1 hW => ⟨rfl, am_U.warm hW hU, by rw [hU1]; exact hBs⟩⟩ rfl rfl hl.1 rfl (lv_room (Nat.le_of_ble_eq_true rfl)) (show decode prog_23_method_2_code 3 = .ok (.invokestatic 9, 3) by decide +kernel) ⟨Nat.le_refl _, Nat.le_refl _⟩) ?_
  refine W.eq (g2 := F0 m 6 ls []) rfl ?_
  refine lv_aload_n (k := 0) hx hb (by decide +kernel) rfl (lv_at hl 0 rfl) ?_
  refine lv_iload_n (k := 1) hx hb (by decide +kernel) rfl (lv_at hl 1 rfl) ?_
  refine va_tb hx hb (hT.kept hk) va_S.rf (vp_in_nI hlt (by omega)) (v := .int ((am_tx.getD i []).getD j 0)) (by rw [nI_clamp hj]) (by decide +kernel) ?_
  refine lv_sipush (n := 255) (v := 255) hx hb (by decide +kernel) (by decide) ?_
  refine lv_iand hx hb (by decide +kernel) ?_
  refine lv_i2c hx hb (by decide +kernel) (aj_at hi hlt).1 ?_
  exact W.zret (ty := .char) hx hb hr (aj_at hi hlt).2 (fun t ht _ => ⟨rfl, ht⟩) (fun q hq => by cases hq) (by decide +kernel) hlocks
set_option maxHeartbeats 4000000 in
theorem cj_charAt (l : Launch) {i : Nat} {x : Int32} (hi : i < 20) (hx0 : vp_in x (am_lens.getD i 0)) : Met l yj_charAt (.code yj_charAt prog_22_method_56_code 2 (some .char) :: amTb) (aj_rm 3) (aj_P ρ D cI cJ cZ Hb X [.ref (ρ (1100 + i)), .int x]) (aj_Q (some (.int ((am_tx.getD i []).getD x.toNatClampNeg 0)))) 0 0 (fun _ => False) := by
  refine Met.ofW (cc := prog_22_method_56_code) (maxL := 2) (ret := (some .char)) (by decide) rfl ?_
  intro p e s m args below meth c s₁ B hml hv
  obtain ⟨rfl, hU, hBs⟩ := hv
  have hx := B.exec
  have hb := B.bytes
  have hr := B.returns
  have hts : ∀ w ∈ amTb, w.before ([.ref (ρ (1100 + i)), .int x] : List Value).toArray s = true := fun w hw => atoms_spec (ws := .code yj_charAt prog_22_method_56_code 2 (some .char) :: amTb) B.pre w (List.mem_cons_of_mem _ hw)
  have hown : s.vm.findClass "java/lang/String" = some m.cls := findClass_of_methodNamed B.named
  have hlocks := B.notSynchronized
  have hl := lv_entry ([.ref (ρ (1100 + i)), .int x]) (n := 2) (Nat.le_of_ble_eq_true rfl)
  rw [lg_entry_eq]
  generalize (lg_sl ([.ref (ρ (1100 + i)), .int x]) ++ List.replicate (2 - (lg_sl ([.ref (ρ (1100 + i)), .int x])).length) Slot.unset).toArray = ls at hl ⊢
  have hl : lv_has ls 2 [(0, .ref (ρ (1100 + i))), (1, .int x)] := hl
  obtain ⟨⟨adV, hS⟩, -⟩ := hU.2.2.2.2.2.2.2
  have hk := aj_keep hBs
  have hlt : x.toNatClampNeg < am_lens.getD i 0 := Nat.not_le.mp fun q => hx0 (Or.inr q)
  refine lv_aload_n (k := 0) hx hb (by decide +kernel) rfl (lv_at hl 0 rfl) ?_
  refine aj_call (v := some (.int 1)) (W.runV (As := []) (rest := []) (index := 492) ⟨hx, hb, hml, hown, hts⟩ (cj_isLatin1 (X := X) l hi) (cwV 0 hts wg_isLatin1 rfl rfl rfl (by decide +kernel) ⟨by decide, by decide⟩) ⟨aj_blind, aj_recv hU hBs hi, fun U hU1 hW => ⟨rfl, am_U.warm hW hU, by rw [hU1]; exact hBs⟩⟩ rfl rfl hl.1 rfl (lv_room (Nat.le_of_ble_eq_true rfl)) (show decode prog_22_method_56_code 1 = .ok (.invokevirtual 492, 3) by decide +kernel) ⟨Nat.le_refl _, Nat.le_refl _⟩) ?_
  refine W.eq (g2 := F0 m 4 ls [.int 1]) rfl ?_
  refine lv_if_eq (tgt := 16) (off := 12) hx hb (by decide +kernel) (by decide) (fun c9 => absurd c9 (by decide)) (fun _ => ?_)
  refine lv_aload_n (k := 0) hx hb (by decide +kernel) rfl (lv_at hl 0 rfl) ?_
  refine vk_getf hx hb ((hS i hi).2.2.1.kept hk) va_S.rf hown (hts _ wj_f9) (fun _ h9 => h9) (by decide +kernel) ?_
  refine lv_iload_n (k := 1) hx hb (by decide +kernel) rfl (lv_at hl 1 rfl) ?_
  refine aj_call (v := some (.int ((am_tx.getD i []).getD x.toNatClampNeg 0))) (W.runS (As := [.ref (adV i), .int x]) (rest := []) (index := 495) ⟨hx, hb, hml, hown, hts⟩ (cj_lcharAt (X := X) l hi hx0) (va_cwS 2 hts wg_lcharAt rfl rfl rfl (by decide +kernel) ⟨Nat.le_refl _, by decide⟩) ⟨fun a U g mk q => ⟨aj_blind a U g mk q.1, va_T.moved (Vm.Alike.refl U.vm) q.2⟩, fun U hU1 hW => ⟨⟨rfl, am_U.warm hW hU, by rw [hU1]; exact hBs⟩, va_T.moved hW.alike (hS i hi).2.2.2⟩⟩ rfl rfl hl.1 rfl (lv_room (Nat.le_of_ble_eq_true rfl)) (show decode prog_22_method_56_code 12 = .ok (.invokestatic 495, 3) by decide +kernel) ⟨Nat.le_refl _, Nat.le_refl _⟩) ?_
  refine W.eq (g2 := F0 m 15 ls [.int ((am_tx.getD i []).getD x.toNatClampNeg 0)]) rfl ?_
  exact W.zret (ty := .char) hx hb hr (aj_at hi hlt).2 (fun t ht _ => ⟨rfl, ht⟩) (fun q hq => by cases hq) (by decide +kernel) hlocks
set_option maxHeartbeats 4000000 in
theorem cj_ordinal (l : Launch) {i : Nat} (hi : i < 19) : Met l yj_ordinal (.code yj_ordinal prog_16_method_2_code 1 (some .int) :: amTb) (aj_rm 0) (aj_P ρ D cI cJ cZ Hb X [.ref (ρ (1000 + i))]) (aj_Q (some (.int (Int32.ofNat i)))) 0 0 (fun _ => False) := by
  refine Met.ofW (cc := prog_16_method_2_code) (maxL := 1) (ret := (some .int)) (by decide) rfl ?_
  intro p e s m args below meth c s₁ B hml hv
  obtain ⟨rfl, hU, hBs⟩ := hv
  have hx := B.exec
  have hb := B.bytes
  have hr := B.returns
  have hts : ∀ w ∈ amTb, w.before ([.ref (ρ (1000 + i))] : List Value).toArray s = true := fun w hw => atoms_spec (ws := .code yj_ordinal prog_16_method_2_code 1 (some .int) :: amTb) B.pre w (List.mem_cons_of_mem _ hw)
  have hown : s.vm.findClass "java/lang/Enum" = some m.cls := findClass_of_methodNamed B.named
  have hlocks := B.notSynchronized
  have hl := lv_entry ([.ref (ρ (1000 + i))]) (n := 1) (Nat.le_of_ble_eq_true rfl)
  rw [lg_entry_eq]
  generalize (lg_sl ([.ref (ρ (1000 + i))]) ++ List.replicate (1 - (lg_sl ([.ref (ρ (1000 + i))])).length) Slot.unset).toArray = ls at hl ⊢
  have hl : lv_has ls 1 [(0, .ref (ρ (1000 + i)))] := hl
  obtain ⟨-, ho, -⟩ := hU.2.2.2.2.2.1 i hi
  refine lv_aload_n (k := 0) hx hb (by decide +kernel) rfl (lv_at hl 0 rfl) ?_
  refine vk_getf hx hb (ho.kept (aj_keep hBs)) va_S.rf hown (hts _ wj_f7) (fun _ h9 => h9) (by decide +kernel) ?_
  exact W.iret hx hb hr (fun t ht _ => ⟨rfl, ht⟩) (fun q hq => by cases hq) (by decide +kernel) hlocks
end JDK
theorem am_shift {a b n : Nat} (h1 : b ≤ a) (h2 : a < b + n) : ∃ i : Nat, i < n ∧ a = b + i := ⟨a - b, by omega, by omega⟩
set_option maxHeartbeats 4000000 in
theorem am_bis {l : Launch} {ρ : Nat → Nat} {D : va_G} {cI cJ cZ : ClassId} {Hb : Heap} {X : amX} : am_BIs l ρ D cI cJ cZ Hb X := by
  intro p e R s m args below meth c M Q hF hV H locs cells slots pc len ix j lv st w w1 fr1 ls h9 hchk hbi hR hlocs hs hsz hcR hsR kk
  obtain ⟨hx, hb, hown, hts, hU, hini, hml, hBs, hρ, hRf, hRl⟩ := hF
  have hB := hR.2.2.2
  have h1 : (am_dc M pc (.invokevirtual ix) 3 && decide ((am_own M = "ListDesk$Reader" ∧ ((j = 900 ∧ ix = 175) ∨ (j = 901 ∧ ix = 153))) ∨ (am_own M = "ListDesk$Tape" ∧ ((j = 901 ∧ ix = 46) ∨ (j = 902 ∧ ix = 50))))) = true := by
    have h2 := hchk
    simp only [am_chk] at h2
    rwa [if_pos h9] at h2
  simp only [Bool.and_eq_true, am_dc, decide_eq_true_eq] at h1
  obtain ⟨hdg, h1⟩ := h1
  unfold am_bi at hbi
  split at hbi
  · next hcat =>
    have hPU : ∀ (as : List Value) (U : State), U.heap = H → s.WarmedH U.vm → aj_P ρ D cI cJ cZ Hb X as as.toArray U := fun as U hU1 hW => ⟨rfl, am_U.warm hW hU, by rw [hU1]; exact hB⟩
    split at hbi
    · next a st' he =>
      have he : st = .ref a :: st' := he
      subst he
      have hcat' : (((st'.map (am_rv ρ))).map fun v => v.category).sum ≤ 8 := by
        rw [am_cat]
        have h8 : ((Value.ref a :: st').map fun v => v.category).sum ≤ 8 := hcat
        simp only [List.map_cons, List.sum_cons] at h8
        omega
      show W p l e R s m args below meth c H locs cells slots Q (F0 m pc ls (.ref (ρ a) :: st'.map (am_rv ρ)))
      split at hbi
      · next hq =>
        obtain ⟨rfl, ha1, ha2⟩ := hq
        have ha1 : (1000 : Nat) ≤ (a : Nat) := ha1
        cases hbi
        obtain ⟨i, hi, rfl⟩ : ∃ i : Nat, i < 19 ∧ a = 1000 + i := am_shift ha1 ha2
        have hii : (1000 + i : Nat) - 1000 = i := by omega
        have kk : W p l e R s m args below meth c H locs cells slots Q (F0 m (pc + 3) ls (.int (Int32.ofNat (1000 + i - 1000)) :: st'.map (am_rv ρ))) := kk
        rw [hii] at kk
        rcases h1 with ⟨ho, ⟨-, rfl⟩ | ⟨h2, -⟩⟩ | ⟨-, ⟨h2, -⟩ | ⟨h2, -⟩⟩
        · rw [ho] at hown
          obtain ⟨⟨cell, g1, g2, g3, -⟩, -⟩ := hU.2.2.2.2.2.1 i hi
          have hrec : ∃ cell : Cell, H[ρ (1000 + i)]? = some cell ∧ cell.vm.isStatics = false ∧ s.vm.findClass "ListDesk$Word" = some cell.cls := ⟨cell, by
            have h7 := (Array.getElem?_eq_some_iff.mp g1).1
            rw [hB.2 _ h7]; exact g1, g2, g3⟩
          exact aj_call (v := some (.int (Int32.ofNat i))) (va_Run.run (va_runU (As := []) (index := 175) (x := yj_wordinal) (owner := "java/lang/Enum") ⟨hx, hb, hml, hown, hts⟩ (cj_ordinal (X := X) l hi) (va_cwU 0 hts wg_ordinal rfl rfl rfl rfl (by decide +kernel) ⟨by show 0 + 1 ≤ _; omega, by show 8 + (1 + 11) + 40 * 0 ≤ _; omega⟩) ⟨aj_blind, hrec, hPU _⟩ rfl rfl hsz rfl (lv_room hcat') hdg ⟨hcR, hsR⟩)) kk
        · exact absurd h2 (by decide)
        · exact absurd h2 (by decide)
        · exact absurd h2 (by decide)
      · split at hbi
        · next hq =>
          obtain ⟨rfl, ha1, ha2⟩ := hq
          cases hbi
          obtain ⟨i, hi, rfl⟩ : ∃ i : Nat, i < 20 ∧ a = 1100 + i := am_shift ha1 ha2
          have hii : (1100 + i : Nat) - 1100 = i := by omega
          have kk : W p l e R s m args below meth c H locs cells slots Q (F0 m (pc + 3) ls (.int (Int32.ofNat (am_tx.getD (1100 + i - 1100) []).length) :: st'.map (am_rv ρ))) := kk
          rw [hii, ← (aj_ch i hi).1] at kk
          rcases h1 with ⟨ho, ⟨h2, -⟩ | ⟨-, rfl⟩⟩ | ⟨ho, ⟨-, rfl⟩ | ⟨h2, -⟩⟩
          · exact absurd h2 (by decide)
          · rw [ho] at hown
            exact aj_call (v := some (.int (Int32.ofNat (am_lens.getD i 0)))) (W.runV (As := []) (index := 153) ⟨hx, hb, hml, hown, hts⟩ (cj_length (X := X) l hi) (cwV 0 hts wg_lenR rfl rfl rfl (by decide +kernel) ⟨by show 1 + 1 ≤ _; omega, by show 8 + (1 + 11) + 40 * 1 ≤ _; omega⟩) ⟨aj_blind, aj_recv hU hB hi, hPU _⟩ rfl rfl hsz rfl (lv_room hcat') hdg ⟨hcR, hsR⟩) kk
          · rw [ho] at hown
            exact aj_call (v := some (.int (Int32.ofNat (am_lens.getD i 0)))) (W.runV (As := []) (index := 46) ⟨hx, hb, hml, hown, hts⟩ (cj_length (X := X) l hi) (cwV 0 hts wg_lenT rfl rfl rfl (by decide +kernel) ⟨by show 1 + 1 ≤ _; omega, by show 8 + (1 + 11) + 40 * 1 ≤ _; omega⟩) ⟨aj_blind, aj_recv hU hB hi, hPU _⟩ rfl rfl hsz rfl (lv_room hcat') hdg ⟨hcR, hsR⟩) kk
          · exact absurd h2 (by decide)
        · cases hbi
    · next x a st' he =>
      have he : st = .int x :: .ref a :: st' := he
      subst he
      have hcat' : (((st'.map (am_rv ρ))).map fun v => v.category).sum ≤ 8 := by
        rw [am_cat]
        have h8 : ((Value.int x :: Value.ref a :: st').map fun v => v.category).sum ≤ 8 := hcat
        simp only [List.map_cons, List.sum_cons] at h8
        omega
      show W p l e R s m args below meth c H locs cells slots Q (F0 m pc ls (.int x :: .ref (ρ a) :: st'.map (am_rv ρ)))
      split at hbi
      · next hq =>
        obtain ⟨rfl, ha1, ha2, hin⟩ := hq
        cases hbi
        obtain ⟨i, hi, rfl⟩ : ∃ i : Nat, i < 20 ∧ a = 1100 + i := am_shift ha1 ha2
        have hii : (1100 + i : Nat) - 1100 = i := by omega
        have kk : W p l e R s m args below meth c H locs cells slots Q (F0 m (pc + 3) ls (.int ((am_tx.getD (1100 + i - 1100) []).getD x.toNatClampNeg 0) :: st'.map (am_rv ρ))) := kk
        have hin : ¬ (x < 0 ∨ (am_tx.getD (1100 + i - 1100) []).length ≤ x.toNatClampNeg) := hin
        rw [hii] at kk hin
        rw [← (aj_ch i hi).1] at hin
        rcases h1 with ⟨-, ⟨h2, -⟩ | ⟨h2, -⟩⟩ | ⟨ho, ⟨h2, -⟩ | ⟨-, rfl⟩⟩
        · exact absurd h2 (by decide)
        · exact absurd h2 (by decide)
        · exact absurd h2 (by decide)
        · rw [ho] at hown
          exact aj_call (v := some (.int ((am_tx.getD i []).getD x.toNatClampNeg 0))) (W.runV (As := [.int x]) (index := 50) ⟨hx, hb, hml, hown, hts⟩ (cj_charAt (X := X) l hi hin) (cwV 1 hts wg_charAt rfl rfl rfl (by decide +kernel) ⟨by show 3 + 1 ≤ _; omega, by show 8 + (2 + 11) + 40 * 3 ≤ _; omega⟩) ⟨aj_blind, aj_recv hU hB hi, hPU _⟩ rfl rfl hsz rfl (lv_room hcat') hdg ⟨hcR, hsR⟩) kk
      · cases hbi
    · cases hbi
  · cases hbi
