/-! the claim, out of the law's function -/
theorem am_cons {X : amX} {call : amK} {M : amM} {n : Nat} {fr fr1 : amF} {w w1 w' : amW} {o : amO} {ins : Instr} {len ix : Nat} (hat : am_at M fr.1 = some (ins, len, ix)) (hn : am_next X (am_mL M) ins len fr w = some (fr1, w1)) (k : AMl X call M n fr1 w1 o w') : AMl X call M (n + 1) fr w o w' := ⟨ins, len, ix, hat, Or.inl ⟨_, _, hn, k⟩⟩
theorem am_conC {X : amX} {call : amK} {M : amM} {n : Nat} {fr : amF} {w w1 w' : amW} {o : amO} {ins : Instr} {len ix j : Nat} {as rest : List Value} (hat : am_at M fr.1 = some (ins, len, ix)) (hi : am_inv ins w fr.2.2 = some (j, as, rest)) (hc : call j as w (.inl none) w1) (k : AMl X call M n (fr.1 + 3, fr.2.1, rest) w1 o w') : AMl X call M (n + 1) fr w o w' := ⟨ins, len, ix, hat, Or.inr (Or.inr (Or.inl ⟨j, as, rest, none, w1, hi, hc, k⟩))⟩
def iL : lawS := (iS, iR, fun _ => 0, 0)
set_option maxRecDepth 100000 in
theorem am_law {X : amX} {n : Nat} {T : lawS} {o : amO} (h : g_188_23 X n 0 iL = some (o, T)) : ∃ m, AMl X (AMc X 1000) am_m188 m (0, [(0, .ref 2000)], []) ([], 0, 0) o (wl T 0) := by
  obtain ⟨m, hm⟩ := t_188_23 (d := 1000) (e := 0) (X := X) (by decide) n 0 iL o T h [(4, .int (Int32.ofInt 0)), (3, .ref 67), (2, .ref 34), (1, .ref 0), (0, .ref 2000)] (al_cons rfl (al_cons rfl (al_cons rfl (al_cons rfl (al_cons rfl al_nil)))))
  obtain ⟨m1, h1⟩ := am_exec_ok 400 _ _ _ _ _ (st_115 (X := X)) 999 (by decide)
  obtain ⟨m2, h2⟩ := am_exec_ok 400 _ _ _ _ _ (st_126 (X := X)) 999 (by decide)
  have h1' : AMc X 1000 115 [.ref 0] ([am_new 8], 0, 3) (.inl none) (cC iS, 0, 67656) := ⟨am_m115, m1, rfl, by decide, Nat.le_of_ble_eq_true rfl, h1⟩
  have h2' : AMc X 1000 126 [.ref 34] (cC iS ++ [am_new 9], 0, 67714) (.inl none) (cC iS ++ cM iR, 0, 608436) := ⟨am_m126, m2, rfl, by decide, Nat.le_of_ble_eq_true rfl, h2⟩
  refine ⟨m + 13, am_cons (ix := 8) (ins := .new 8) (len := 3) rfl rfl ?_⟩
  refine am_cons (ix := 0) (ins := .dup) (len := 1) rfl rfl ?_
  refine am_conC (ix := 38) (ins := .invokespecial 115) (len := 3) rfl rfl h1' ?_
  refine am_cons (ix := 0) (ins := .astore 1) (len := 1) rfl rfl ?_
  refine am_cons (ix := 39) (ins := .new 9) (len := 3) rfl rfl ?_
  refine am_cons (ix := 0) (ins := .dup) (len := 1) rfl rfl ?_
  refine am_conC (ix := 41) (ins := .invokespecial 126) (len := 3) rfl rfl h2' ?_
  refine am_cons (ix := 0) (ins := .astore 2) (len := 1) rfl rfl ?_
  refine am_cons (ix := 0) (ins := .iconst 1) (len := 1) rfl rfl ?_
  refine am_cons (ix := 0) (ins := .newarray .long) (len := 2) rfl rfl ?_
  refine am_cons (ix := 0) (ins := .astore 3) (len := 1) rfl rfl ?_
  refine am_cons (ix := 0) (ins := .iconst 0) (len := 1) rfl rfl ?_
  refine am_cons (ix := 0) (ins := .istore 4) (len := 2) rfl rfl ?_
  exact hm
/-- what is left to show: pure functions -/
def am_Goal : Prop := ∀ (L : Nat) (xs : Nat → Int32), L ≤ 2048 → ∃ n T, g_188_23 (L, xs) n 0 iL = some (.inl (some (.int 1)), T) ∧ T.2.2.2 ≤ 600000
theorem am_run_of (h : am_Goal) : am_Run := by
  intro L xs hL
  obtain ⟨n, T, h1, h2⟩ := h L xs hL
  obtain ⟨m, h3⟩ := am_law h1
  refine ⟨m, _, h3, ?_, ?_⟩
  · show 68 + T.2.2.2 ≤ room_1.cells
    have hr : 600100 ≤ room_1.cells := by decide
    omega
  · show 608437 + 6 * T.2.2.2 ≤ room_1.slots
    have hr : 4300000 ≤ room_1.slots := by decide
    omega
