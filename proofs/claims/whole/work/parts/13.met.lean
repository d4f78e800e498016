/-! AM's runs of methods are contracts -/
section MET
variable {p : Program} {l : Launch} {e : Env} {R : Room} {s : State} {m : MethodId} {args : Array Value} {below : List Frame} {meth : Method} {c : Code} {H : Heap} {locs : List Loc} {cells slots : Nat}
variable {ρ : Nat → Nat} {D : va_G} {cI cJ cZ : ClassId} {Hb : Heap} {X : amX} {M : amM}
set_option maxHeartbeats 4000000 in
theorem am_thrown (hl : l.stackTraces = false) (hF : am_Fr p R s m args meth c ρ D cI cJ cZ Hb X M) (hV : am_V Hb s) (hlocks : meth.locks = false) (htab : c.exceptionTable.toList = []) {mc ms : Nat} {o : amO} {w w' : amW} {ls : Array Slot} {pc len ix x : Nat} {ins : Instr} {st : List Value}
    (ho : o = .inr x) (hw : w' = (w.1, w.2.1 + 1, w.2.2 + 6)) (hchk : am_chk M (pc, ins, len, ix) = true) (hthr : am_thr ins st = some x) (hR : am_Rep ρ D cI cJ cZ Hb w H) (hlocs : ∀ z ∈ locs, Hb.size ≤ z.base) (hs : s.heap.size ≤ H.size) (hsz : ls.size = am_mL M) (hc : cells + 1 ≤ mc) (hcs : slots + 6 ≤ ms) (hmc : mc ≤ R.cells) (hms : ms ≤ R.slots) :
    W p l e R s m args below meth c H locs cells slots (vx_MQ below (am_Qc ρ D cI cJ cZ Hb o w') (am_XC ρ D cI cJ cZ Hb o w') args s mc ms (am_A Hb)) (F0 m pc ls (st.map (am_rv ρ))) := by
  obtain ⟨hx, hb, hown, hts, hU, hini, hml, hBs, hρ, hRf, hRl⟩ := hF
  unfold am_thr at hthr
  split at hthr
  · next q =>
    split at hthr
    · next hq =>
      obtain ⟨h1, h2, h3⟩ := hq
      have hxq : x = q - 1000 := (Option.some.inj hthr).symm
      have h4 : (match am_TH[ix]? with
        | some e => decide (e.1 = am_own M ∧ e.2.2.2.2.2 = q - 1000) && am_dc M pc (.new e.2.1) 3 && am_dc M (pc + 3) .dup 1 && am_dc M (pc + 4) (.ldc e.2.2.1) 2 && am_dc M (pc + 6) (.invokespecial e.2.2.2.2.1) 3 && am_dc M (pc + 9) .athrow 1
        | none => false) = true := by
        have h5 := hchk
        simp only [am_chk] at h5
        rwa [if_pos h1] at h5
      split at h4
      · next y hy =>
        simp only [Bool.and_eq_true, am_dc, decide_eq_true_eq] at h4
        obtain ⟨⟨⟨⟨⟨⟨g1, g2⟩, d0⟩, d3⟩, d4⟩, d6⟩, d9⟩ := h4
        have hyT : y ∈ am_TH := List.mem_of_getElem? hy
        obtain ⟨t1, t2, t3⟩ := am_tw_get hyT
        obtain ⟨sa, hsa⟩ := hV.2.2.1 y hyT
        have hwd := hV.2.2.2.1 y hyT
        have hwd' : ∀ w9 ∈ am_tw y, w9.before args s = true := fun w9 hw9 => va_tabs (t1 w9 hw9).2.1 rfl (hwd w9 hw9)
        rw [← g1] at hown
        have hyx : y.2.2.2.2.2 = x := by rw [g2, hxq]
        have hkeep : ∀ a : Nat, a < Hb.size → ¬ am_A Hb a → s.heap[a]? = Hb[a]? := fun a h9 _ => hBs.2 a h9
        have hSs := am_S hBs hR.2.2.2 hs hlocs
        refine vx_throwS (own := y.1) (cls := am_ex y.2.2.2.2.2) (text := y.2.2.2.1) (names := am_nms) (ik := y.2.1) (is := y.2.2.1) (ic := y.2.2.2.2.1) (A := am_A Hb) hx hb hl hown t2 (by decide) (hwd' _ (List.mem_cons_self)) (hwd' _ (List.mem_cons_of_mem _ List.mem_cons_self)) hsa (fun w9 hw9 => hwd' w9 (List.mem_cons_of_mem _ (List.mem_cons_of_mem _ hw9)))
          (fun w9 hw9 => (t1 w9 hw9).2.2) (hV.1.kept hkeep) (hV.2.1.kept hkeep) hSs (by rw [hml]; exact hsz) d0 d3 d4 d6 d9 (by rw [htab]; intro z hz; cases hz) (by show 2 + 3 < R.frames; omega) (by rw [am_cat]; show _ + (13 * (2 + 1) + 43) ≤ R.locals; omega) (by omega) (by omega) hlocks ?_ hlocs hc hcs
        intro t hal hle hsame
        refine ⟨x, ho, by rw [hyx], by omega, ?_, Nat.le_trans hs hle⟩
        subst hw
        refine ⟨hR.1.kept (fun k z hz => hsame z.1 (hR.1 k z hz).lt), hR.2.1, fun h9 => by simp at h9, Nat.le_trans hR.2.2.2.1 hle, fun z hz => ?_⟩
        rw [hsame z (Nat.lt_of_lt_of_le hz hR.2.2.2.1), hR.2.2.2.2 z hz]
      · cases h4
    · cases hthr
  · cases hthr
theorem am_returned (hF : am_Fr p R s m args meth c ρ D cI cJ cZ Hb X M) (hr : meth.sig.returnType = am_rt M) (hlocks : meth.locks = false) {mc ms : Nat} {o : amO} {w' : amW} {XC : String → State → State → Prop} {ls : Array Slot} {pc len ix : Nat} {ins : Instr} {v : Option Value} {st : List Value}
    (ho : o = .inl v) (hchk : am_chk M (pc, ins, len, ix) = true) (hret : am_ret (am_rt M) ins st = some v) (hR : am_Rep ρ D cI cJ cZ Hb w' H) (hlocs : ∀ z ∈ locs, Hb.size ≤ z.base) (hs : s.heap.size ≤ H.size) (hc : cells ≤ mc) (hcs : slots ≤ ms) :
    W p l e R s m args below meth c H locs cells slots (vx_MQ below (am_Qc ρ D cI cJ cZ Hb o w') XC args s mc ms (am_A Hb)) (F0 m pc ls (st.map (am_rv ρ))) := by
  obtain ⟨hx, hb, hown, hts, hU, hini, hml, hBs, hρ, hRf, hRl⟩ := hF
  have hq : ∀ t : State, t.heap = H → s.WarmedH t.vm → am_Qc ρ D cI cJ cZ Hb o w' args s (.returned (v.map (am_rv ρ))) t := fun t ht _ => ⟨v, ho, rfl, by rw [ht]; exact hR, by rw [ht]; exact hs⟩
  refine vx_ret (W.widen hc hcs ?_)
  unfold am_ret at hret
  split at hret
  · next h1 =>
    cases hret
    have hdg : decode (am_b M) pc = .ok (.return_, 1) := of_decide_eq_true hchk
    exact W.vret hx hb (hr.trans h1) hq hlocs hdg hlocks
  · next x h1 =>
    cases hret
    have hdg : decode (am_b M) pc = .ok (.ireturn, 1) := of_decide_eq_true hchk
    exact W.iret hx hb (hr.trans h1) hq hlocs hdg hlocks
  · next x h1 =>
    have hdg : decode (am_b M) pc = .ok (.ireturn, 1) := of_decide_eq_true hchk
    split at hret
    · next hx1 =>
      cases hret
      refine W.zret hx hb (hr.trans h1) ?_ hq hlocs hdg hlocks
      rcases hx1 with rfl | rfl <;> decide
    · cases hret
  · next x h1 =>
    cases hret
    have hdg : decode (am_b M) pc = .ok (.lreturn, 1) := of_decide_eq_true hchk
    exact W.lret hx hb (hr.trans h1) hq hlocs hdg hlocks
  · next n a h1 =>
    cases hret
    have hdg : decode (am_b M) pc = .ok (.areturn, 1) := of_decide_eq_true hchk
    exact W.aret hx hb (hr.trans h1) (Or.inl ⟨_, rfl⟩) (Or.inr ⟨_, rfl⟩) hq hlocs hdg hlocks
  · next n h1 =>
    cases hret
    have hdg : decode (am_b M) pc = .ok (.areturn, 1) := of_decide_eq_true hchk
    exact W.aret hx hb (hr.trans h1) (Or.inl ⟨_, rfl⟩) (Or.inl rfl) hq hlocs hdg hlocks
  · cases hret
end MET
theorem am_args_map (ρ : Nat → Nat) : ∀ (i : Nat) (as : List Value), lv_args i (as.map (am_rv ρ)) = (lv_args i as).map (am_rl ρ)
  | _, [] => rfl
  | i, v :: as => by
    simp only [List.map_cons, lv_args, am_rv_cat, am_args_map ρ _ as]
    rfl
theorem am_sl_len (ρ : Nat → Nat) : ∀ as : List Value, (lg_sl (as.map (am_rv ρ))).length = (lg_sl as).length
  | [] => rfl
  | v :: as => by
    have h := am_sl_len ρ as
    simp only [lg_sl, List.map_cons, List.flatMap_cons, List.length_append] at h ⊢
    rw [h, am_rv_cat]
    split <;> rfl
theorem am_hh_law : am_Ms.all (fun M => decide (am_hh M = [] ∨ am_own M = "ListDeskLaw")) = true := by decide +kernel
/-- the three members of the library that AM takes as instructions of its own -/
def am_BIs (l : Launch) (ρ : Nat → Nat) (D : va_G) (cI cJ cZ : ClassId) (Hb : Heap) (X : amX) : Prop :=
  ∀ (p : Program) (e : Env) (R : Room) (s : State) (m : MethodId) (args : Array Value) (below : List Frame) (meth : Method) (c : Code) (M : amM) (Q : State → Prop), am_Fr p R s m args meth c ρ D cI cJ cZ Hb X M → am_V Hb s → am_BI p l e R s m args below meth c ρ D cI cJ cZ Hb M Q
set_option maxHeartbeats 4000000 in
theorem am_met {l : Launch} (hl : l.stackTraces = false) {ρ : Nat → Nat} {D : va_G} {cI cJ cZ : ClassId} {Hb : Heap} {X : amX} (hρ : am_ρ ρ Hb) (hBI : am_BIs l ρ D cI cJ cZ Hb X) : ∀ d, am_ok l ρ D cI cJ cZ Hb X (AMc X d) d := by
  intro d
  induction d with
  | zero => intro j as w o w' h; exact h.elim
  | succ d ih =>
    intro j as w o w' h
    obtain ⟨M, n, hM, hlaw, hlen, hrun⟩ := h
    have hMm : M ∈ am_Ms := List.mem_of_getElem? hM
    have hne : M ≠ am_m188 := fun h9 => hlaw (by rw [h9]; rfl)
    have hmono := am_mono (fun j as w o w' h => (ih j as w o w' h).1) _ _ _ _ _ hrun
    obtain ⟨k1, k2, k3, k4, k5, k6, k7, k8⟩ := am_k_all M hMm hne
    refine ⟨hmono, M, hM, hne, ?_⟩
    have hll : am_hh M = [] ∨ am_own M = "ListDeskLaw" := of_decide_eq_true (List.all_eq_true.mp am_hh_law M hMm)
    have body : ∀ (p : Program) (e : Env) (s : State) (m : MethodId) (args : Array Value) (below : List Frame) (meth : Method) (c : Code) (s₁ : State), BodyLoose p l (am_y M) (headSpec (am_cdw M :: amTb) (am_rm (d + 1) (am_cN w' - am_cN w) (am_sN w' - am_sN w))) (am_b M) (am_mL M) (am_rt M) e s m args below meth c s₁ → c.maxLocals = am_mL M → c.exceptionTable.toList = tableOf (am_hh M) → am_Pc ρ D cI cJ cZ Hb X as w args s →
        W p l e (am_rm (d + 1) (am_cN w' - am_cN w) (am_sN w' - am_sN w)) s m args below meth c s.heap [] 0 0 (vx_MQ below (am_Qc ρ D cI cJ cZ Hb o w') (am_XC ρ D cI cJ cZ Hb o w') args s (am_cN w' - am_cN w) (am_sN w' - am_sN w) (am_A Hb)) (entryFrame m args (am_mL M)) := by
      intro p e s m args below meth c s₁ B hml htab hP
      obtain ⟨rfl, hR, hU, hV⟩ := hP
      have hown : s.vm.findClass (am_own M) = some m.cls := by rw [k7]; exact findClass_of_methodNamed B.named
      have hts : ∀ w9 ∈ amTb, w9.before (as.map (am_rv ρ)).toArray s = true := fun w9 hw9 => atoms_spec (ws := am_cdw M :: amTb) B.pre w9 (List.mem_cons_of_mem _ hw9)
      have hF : am_Fr p (am_rm (d + 1) (am_cN w' - am_cN w) (am_sN w' - am_sN w)) s m (as.map (am_rv ρ)).toArray meth c ρ D cI cJ cZ Hb X M :=
        ⟨B.exec, B.bytes, hown, hts, hU, fun h9 => (name_of_methodNamed B.named B.method).1.trans h9, hml, hR.2.2.2, hρ, by show 10 ≤ d + 1 + 10; omega, by show 400 ≤ 64 * (d + 1) + 400; omega⟩
      have hlocks : meth.locks = false := B.notSynchronized
      rw [lg_entry_eq]
      have hen := lv_entry (as.map (am_rv ρ)) (n := am_mL M) (by rw [am_sl_len]; exact hlen)
      rw [am_args_map] at hen
      exact am_frame (dd := d) (mc := am_cN w' - am_cN w) (ms := am_sN w' - am_sN w) hMm hF hV htab hll (by show d + 11 ≤ d + 1 + 10; omega) (by show 64 * d + 464 ≤ 64 * (d + 1) + 400; omega) (Nat.le_refl _) (Nat.le_refl _) ih (hBI p e _ s m _ below meth c M _ hF hV)
        (fun H locs ls pc len ix cells slots ins v st ho hchk hret hR1 hl1 hs1 hc1 hc2 => am_returned hF B.returns hlocks ho hchk hret hR1 hl1 hs1 hc1 hc2)
        (fun H locs ls pc cells slots x ce q st ho hx3 hh hq hv hcl hR1 hl1 hs1 hc1 hc2 => vx_out (by rw [htab, hh]; intro z hz; cases hz) hlocks hq hv hcl (fun t ht _ => ⟨x, ho, rfl, hx3, by rw [ht]; exact hR1, by rw [ht]; exact hs1⟩) hl1 hc1 hc2)
        (fun H locs ls pc len ix cells slots x ins st w9 ho hw9 hh hchk hthr hR1 hl1 hs1 hsz1 hc1 hc2 => am_thrown hl hF hV hlocks (by rw [htab, hh]; rfl) ho hw9 hchk hthr hR1 hl1 hs1 hsz1 hc1 hc2 (Nat.le_refl _) (Nat.le_refl _))
        n (0, lv_args 0 as, []) w hrun s.heap [] _ 0 0 hR hen (fun z hz => by cases hz) (Nat.le_refl _) (by omega) (by omega)
    by_cases hh : am_hh M = []
    · have hcd : am_cdw M = .code (am_y M) (am_b M) (am_mL M) (am_rt M) := if_pos hh
      refine vx_ofW (cc := am_b M) (maxL := am_mL M) (ret := am_rt M) k3 (by rw [hcd]) ?_
      intro p e s m args below meth c s₁ B hml ht hP
      refine body p e s m args below meth c s₁ B hml ?_ hP
      rw [hh]
      cases hc : c.exceptionTable.toList with
      | nil => rfl
      | cons z zs => exact (ht z (by rw [hc]; exact List.mem_cons_self)).elim
    · have hcd : am_cdw M = .codeWith (am_y M) (am_b M) (am_mL M) (am_rt M) (am_hh M) := if_neg hh
      refine vx_ofWH (cc := am_b M) (maxL := am_mL M) (ret := am_rt M) (hh := am_hh M) k3 (by rw [hcd]) ?_
      intro p e s m args below meth c s₁ B hml hP
      refine body p e s m args below meth c s₁ B hml ?_ hP
      exact vx_table (x := am_y M) B (atoms_spec (ws := am_cdw M :: amTb) B.pre _ (by rw [hcd]; exact List.mem_cons_self))
