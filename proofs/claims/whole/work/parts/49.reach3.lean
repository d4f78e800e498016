/-! reach, and what names do -/
section REACH
variable {N : Nat} {tx : Nat → Nat} {a sz nc pd fc h : Nat} {cx : cxT} {S : amS}
theorem scF_app {l : Nat} : ∀ (vs : List scE) (sc : List scE) {e : scE}, scF (vs ++ sc) l = some e → (e ∈ vs ∧ e.1 = l) ∨ scF sc l = some e
  | [], _, _, h => Or.inr h
  | v :: vs, sc, e, h => by
    rw [List.cons_append, scF_cons] at h
    by_cases hv : v.1 = l
    · rw [if_pos hv] at h
      cases h
      exact Or.inl ⟨List.mem_cons_self, hv⟩
    · rw [if_neg hv] at h
      rcases scF_app vs sc h with h9 | h9
      · exact Or.inl ⟨List.mem_cons_of_mem _ h9.1, h9.2⟩
      · exact Or.inr h9
theorem lvC_home {r8 : Nat → Int32} : ∀ {c : cxT} {e : scE} {l : Nat}, lvC r8 c → scF (scO c) l = some e → ∃ f ∈ c, e.2.2.2 = f.1
  | [], e, l, _, h => by cases h
  | f :: c, e, l, hl, h => by
    rcases scF_app f.2 (scO c) h with h9 | h9
    · exact ⟨f, List.mem_cons_self, (hl.1 e h9.1).2⟩
    · obtain ⟨g, hg, h8⟩ := lvC_home hl.2 h9
      exact ⟨g, List.mem_cons_of_mem _ hg, h8⟩
/-- the loop of reach, frame by frame -/
theorem reach_l {l : Nat} {e : scE} {src0 : Int32} (he1 : e.1 = l) (hl : l < 26) (hv : e.2.1 < 250) (hlv : cx.length ≤ 21) : ∀ (c pre : cxT), pre ++ c = cx → c ≠ [] → scF (scO c) l = some e → ∀ (S : amS), opC (S.1 20) fc cx → lvC (S.1 8) cx → TKI (S.1 7) (S.1 17) (S.1 18) (S.1 19) cx → S.1 12 9 = nI (cx.length - 1) → src0 = S.1 7 e.2.1 →
    ∃ src S', G_11_8 (nI e.2.1) src0 (S.1 8 e.2.1 + 1) S = G_11_8 (nI e.2.1) src (nI c.length) S' ∧ LoR (S'.1 7) (S'.1 17) (S'.1 18) (fnO c) e src ∧ TKI (S'.1 7) (S'.1 17) (S'.1 18) (S'.1 19) cx ∧ mxR (S.1 17) (S.1 18) (S.1 19) (S'.1 17) (S'.1 18) (S'.1 19) ∧
      (∀ x, (∀ f ∈ cx, f.1 ≠ x) → agT S S' x) ∧ (∀ a, a ≠ 17 → a ≠ 18 → a ≠ 19 → S'.1 a = S.1 a) ∧ S'.2 = S.2 := by
  intro c
  induction c with
  | nil => intro pre _ hn; exact absurd rfl hn
  | cons f c ih =>
    intro pre hp _ hs S ho hlc htk hlev hsrc
    rcases scF_app f.2 (scO c) hs with h9 | h9
    · have h8 := (show lvC (S.1 8) (f :: c) from lvC_drop pre (by rw [hp]; exact hlc)).1 e h9.1
      refine ⟨src0, S, ?_, Or.inl ⟨h8.2, hsrc⟩, htk, mxR_refl _ _ _, fun x _ => ⟨rfl, fun _ _ => ⟨rfl, rfl⟩⟩, fun _ _ _ _ => rfl, rfl⟩
      rw [h8.1, nI_1]
      rfl
    · have hcn : c ≠ [] := by
        rintro rfl
        cases h9
      obtain ⟨src1, S1, q1, q2, q3, q4, q5, q6, q7⟩ := ih (pre ++ [f]) (by rw [← hp, List.append_assoc]; rfl) hcn h9 S ho hlc htk hlev hsrc
      have ho1 : opC (S1.1 20) fc cx := by rw [q6 20 (by decide) (by decide) (by decide)]; exact ho
      have hlc1 : lvC (S1.1 8) cx := by rw [q6 8 (by decide) (by decide) (by decide)]; exact hlc
      have hlev1 : S1.1 12 9 = nI (cx.length - 1) := by rw [q6 12 (by decide) (by decide) (by decide)]; exact hlev
      obtain ⟨w1, w2, w3⟩ := opC_cut pre (show opC (S1.1 20) fc (pre ++ f :: c) from hp ▸ ho1) hcn
      have htf := TKI_cut pre (show TKI _ _ _ _ (pre ++ f :: c) from hp ▸ q3) hcn
      have hfc : ∀ g ∈ c, g.1 ≠ f.1 := fun g hg h8 => by
        rcases opC_mem w3 g hg with h7 | h7 <;> omega
      have hne : e.2.2.2 ≠ f.1 := by
        obtain ⟨g, hg, h8⟩ := lvC_home (lvC_drop (pre ++ [f]) (show lvC (S1.1 8) ((pre ++ [f]) ++ c) by rw [List.append_assoc]; exact hp ▸ hlc1)) h9
        rw [h8]; exact hfc g hg
      have hfn : fnO c ≠ f.1 := by
        cases c with
        | nil => exact absurd rfl hcn
        | cons g c => exact hfc g List.mem_cons_self
      obtain ⟨j, S2, z1, z2, z3, z4, z5, z6, z7, z8⟩ := take_c (src := src1) w2 htf (he1 ▸ h9) (he1 ▸ hl) hv hne q2 hfn
      have hcl : c.length + 1 + pre.length = cx.length := by rw [← hp, List.length_append, List.length_cons]; omega
      refine ⟨-1 - nI j, S2, ?_, z4, ?_, mxR_trans q4 z5, fun x hx => agT_trans (q5 x hx) ?_, fun a h1 h2 h3 => (z7 a h1 h2 h3).trans (q6 a h1 h2 h3), z8.trans q7⟩
      · rw [q1, G_11_8_eq]
        unfold B_11_8
        rw [hlev1, if_neg (nI_nlt (by omega) (by omega)), az_rg_in _ _ _ (show c.length < 21 by omega) (by decide), w1, z2, bI_i]
        simp only [az_st]
        rw [nI_1]
        rfl
      · rw [show S2.1 7 = S1.1 7 from z7 7 (by decide) (by decide) (by decide)]
        refine TKI_upd (r20 := S1.1 20) z5 z6 cx q3 (fun pre' f' c' he hn hf => ?_)
        have : f' = f ∧ c' = c := by
          have h1 := opC_cut pre' (show opC (S1.1 20) fc (pre' ++ f' :: c') from he ▸ ho1) hn
          have hlen : c'.length = c.length := by
            by_cases hlt : c'.length < c.length
            · exfalso
              -- f' lies in c
              have hmem : f' ∈ c := by
                have e1 : cx.drop (cx.length - c.length) = c := by
                  rw [← hp, show pre ++ f :: c = (pre ++ [f]) ++ c by rw [List.append_assoc]; rfl, List.drop_left' (by simp; omega)]
                have e2 : f' ∈ cx.drop (cx.length - c.length) := by
                  rw [he, List.drop_append_of_le_length (by rw [he] at hcl; simp at hcl; simp; omega)]
                  exact List.mem_append_right _ List.mem_cons_self
                rw [e1] at e2; exact e2
              exact hfc f' hmem hf
            · by_cases hgt : c.length < c'.length
              · exfalso
                have hmem : f ∈ c' := by
                  have e1 : cx.drop (cx.length - c'.length) = c' := by
                    have : cx.length = pre'.length + 1 + c'.length := by rw [he]; simp; omega
                    rw [he, show pre' ++ f' :: c' = (pre' ++ [f']) ++ c' by rw [List.append_assoc]; rfl, List.drop_left' (by simp; omega)]
                  have e2 : f ∈ cx.drop (cx.length - c'.length) := by
                    rw [← hp, List.drop_append_of_le_length (by rw [← hp] at hcl; simp at hcl; simp; omega)]
                    exact List.mem_append_right _ List.mem_cons_self
                  rw [e1] at e2; exact e2
                have := opC_mem h1.2.2 f hmem
                omega
              · omega
          have : f :: c = f' :: c' := by
            have e1 : cx.drop pre.length = f :: c := by rw [← hp, List.drop_left' rfl]
            have e2 : cx.drop pre'.length = f' :: c' := by rw [he, List.drop_left' rfl]
            have e3 : pre.length = pre'.length := by
              have l1 : cx.length = pre.length + (c.length + 1) := by rw [← hp]; simp
              have l2 : cx.length = pre'.length + (c'.length + 1) := by rw [he]; simp
              omega
            rw [← e1, ← e2, e3]
          injection this with a1 a2
          exact ⟨a1.symm, a2.symm⟩
        rw [this.2]
        have z3' := z3
        rw [show S2.1 7 = S1.1 7 from z7 7 (by decide) (by decide) (by decide)] at z3'
        exact z3'
      · have := z6 x (fun h9 => hx f (by rw [← hp]; exact List.mem_append_right _ List.mem_cons_self) h9.symm)
        exact this
theorem reach_c (hc : CR N tx a sz nc pd fc h cx S) {l : Nat} {e : scE} (he : scF (scO cx) l = some e) (hl : l < 26) (hlv : cx.length ≤ 21) (hfc : fc ≤ 28) :
    ∃ src S', G_11 (nI e.2.1) (S.1 8 e.2.1) (S.1 7 e.2.1) S = some (.inl (some (.int src)), S') ∧ CR N tx a sz nc pd fc h cx S' ∧ Lo S' (fnO cx) e src ∧ fC sz nc pd fc cx S S' ∧ (∀ a, a ≠ 17 → a ≠ 18 → a ≠ 19 → S'.1 a = S.1 a) ∧ S'.2 = S.2 := by
  obtain ⟨h1, h2, h3, h4, h5, h6, h7, h8, h9, h10, h11, h12, h13⟩ := hc
  have hcn : cx ≠ [] := by
    rintro rfl
    cases he
  have hm := scF_mem he
  have hv := (scC_mem h10 e hm.1).2.1
  obtain ⟨src, S', q1, q2, q3, q4, q5, q6, q7⟩ := reach_l (src0 := S.1 7 e.2.1) hm.2 hl hv hlv cx [] rfl hcn he S h11 h12 h13 h8 rfl
  have r : ∀ a, a ≠ 17 → a ≠ 18 → a ≠ 19 → S'.1 a = S.1 a := q6
  refine ⟨src, S', ?_, ⟨?_, ?_, ?_, ?_, ?_, ?_, ?_, ?_, ?_, ?_, ?_, ?_, q3⟩, q2, ⟨fun i _ => ?_, fun x _ => ?_, fun x _ hx => q5 x hx, fun i _ => ?_, mxN_of hfc q4, fun i _ => ?_⟩, q6, q7⟩
  · simp only [G_11, az_st]
    rw [q1, G_11_8_eq]
    unfold B_11_8
    have hcl : 0 < cx.length := List.length_pos_iff.mpr hcn
    rw [r 12 (by decide) (by decide) (by decide), h8, if_pos (nI_lt (by omega) (by omega))]
  · exact ⟨h1.1, by rw [r 21 (by decide) (by decide) (by decide)]; exact h1.2.1, fun i hi => by rw [r 22 (by decide) (by decide) (by decide)]; exact h1.2.2 i hi⟩
  · rw [r 21 (by decide) (by decide) (by decide)]; exact h2
  · rw [r 1 (by decide) (by decide) (by decide)]; exact h3
  · rw [r 5 (by decide) (by decide) (by decide)]; exact h4
  · rw [r 5 (by decide) (by decide) (by decide)]; exact h5
  · rw [r 5 (by decide) (by decide) (by decide)]; exact h6
  · rw [r 12 (by decide) (by decide) (by decide)]; exact h7
  · rw [r 12 (by decide) (by decide) (by decide)]; exact h8
  · rw [r 23 (by decide) (by decide) (by decide)]; exact h9
  · rw [r 6 (by decide) (by decide) (by decide), r 10 (by decide) (by decide) (by decide)]; exact h10
  · rw [r 20 (by decide) (by decide) (by decide)]; exact h11
  · rw [r 8 (by decide) (by decide) (by decide)]; exact h12
  · refine ⟨?_, ?_, ?_⟩
    · rw [r 2 (by decide) (by decide) (by decide)]
    · rw [r 3 (by decide) (by decide) (by decide)]
    · rw [r 4 (by decide) (by decide) (by decide)]
  · refine ⟨?_, ?_, ?_, ?_⟩
    · rw [r 13 (by decide) (by decide) (by decide)]
    · rw [r 14 (by decide) (by decide) (by decide)]
    · rw [r 15 (by decide) (by decide) (by decide)]
    · rw [r 16 (by decide) (by decide) (by decide)]
  · refine ⟨?_, ?_, ?_, ?_⟩
    · rw [r 6 (by decide) (by decide) (by decide)]
    · rw [r 7 (by decide) (by decide) (by decide)]
    · rw [r 8 (by decide) (by decide) (by decide)]
    · rw [r 9 (by decide) (by decide) (by decide)]; exact fun h => h
  · rw [r 11 (by decide) (by decide) (by decide)]
end REACH
