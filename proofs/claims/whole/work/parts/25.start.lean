/-! the constructors: AM run as a function -/
def am_exec (X : amX) : Nat → amM → amF → amW → Option (Option Value × amW)
  | 0, _, _, _ => none
  | n + 1, M, fr, w => match am_at M fr.1 with
    | none => none
    | some (ins, len, _) => match am_next X (am_mL M) ins len fr w with
      | some (fr1, w1) => am_exec X n M fr1 w1
      | none => match am_ret (am_rt M) ins fr.2.2 with
        | some v => some (v, w)
        | none => match am_inv ins w fr.2.2 with
          | none => none
          | some (j, as, rest) => match am_M j with
            | none => none
            | some M' => if j < 127 ∧ (lg_sl as).length ≤ am_mL M' then (match am_exec X n M' (0, lv_args 0 as, []) w with
              | some (v, w1) => am_exec X n M (fr.1 + 3, fr.2.1, v.toList ++ rest) w1
              | none => none) else none
theorem am_nolaw : (am_Ms.take 127).all (fun M => decide ((am_y M).name ≠ "law")) = true := by decide +kernel
theorem am_exec_ok {X : amX} : ∀ (n : Nat) (M : amM) (fr : amF) (w : amW) (v : Option Value) (w' : amW), am_exec X n M fr w = some (v, w') → ∀ d, n ≤ d → ∃ m, AMl X (AMc X d) M m fr w (.inl v) w'
  | 0, M, fr, w, v, w', h, d, hd => by cases h
  | n + 1, M, fr, w, v, w', h, d, hd => by
    unfold am_exec at h
    split at h
    · cases h
    · next ins len ix hat =>
      split at h
      · next fr1 w1 hn =>
        obtain ⟨m, hm⟩ := am_exec_ok n M fr1 w1 v w' h d (by omega)
        exact ⟨m + 1, ins, len, ix, hat, Or.inl ⟨_, _, hn, hm⟩⟩
      · split at h
        · next v1 hr =>
          cases h
          exact ⟨1, ins, len, ix, hat, Or.inr (Or.inl ⟨_, hr, rfl, rfl⟩)⟩
        · split at h
          · cases h
          · next j as rest hinv =>
            split at h
            · cases h
            · next M' hM =>
              split at h
              · next hc =>
                split at h
                · next v1 w1 hcall =>
                  obtain ⟨m, hm⟩ := am_exec_ok n M _ w1 v w' h d (by omega)
                  obtain ⟨d', rfl⟩ : ∃ d', d = d' + 1 := ⟨d - 1, by omega⟩
                  obtain ⟨m1, hm1⟩ := am_exec_ok n M' _ w v1 w1 hcall d' (by omega)
                  have hnm : (am_y M').name ≠ "law" := by
                    have h9 : M' ∈ am_Ms.take 127 := by
                      refine List.mem_of_getElem? (i := j) ?_
                      rw [List.getElem?_take, if_pos hc.1]
                      exact hM
                    exact of_decide_eq_true (List.all_eq_true.mp am_nolaw M' h9)
                  exact ⟨m + 1, ins, len, ix, hat, Or.inr (Or.inr (Or.inl ⟨j, as, rest, v1, w1, hinv, ⟨M', m1, hM, hnm, hc.2, hm1⟩, hm⟩))⟩
                · cases h
              · cases h
def iS : amS := (fun a => if a = 23 then (fun k => if k = 5 then -1 else 0) else if a = 24 then (fun k => if k = 14 then -1 else 0) else fun _ => 0, fun _ _ => 0)
def iR : amS := (fun a => if a = 34 then (fun k => if k = 6 then -1 else 0) else fun _ => 0, fun _ _ => 0)
set_option maxRecDepth 100000 in
set_option maxHeartbeats 4000000 in
theorem st_115 {X : amX} : am_exec X 400 am_m115 (0, [(0, .ref 0)], []) ([am_new 8], 0, 3) = some (none, (cC iS, 0, 67656)) := rfl
set_option maxRecDepth 100000 in
set_option maxHeartbeats 4000000 in
theorem st_126 {X : amX} : am_exec X 400 am_m126 (0, [(0, .ref 34)], []) (cC iS ++ [am_new 9], 0, 67656 + 58) = some (none, (cC iS ++ cM iR, 0, 608436)) := rfl
