/-! a world of AM in the heap: cell i stands at the address ρ i -/
def am_rv (ρ : Nat → Nat) : Value → Value
  | .ref a => .ref (ρ a)
  | v => v
theorem am_rv_cat (ρ : Nat → Nat) (v : Value) : (am_rv ρ v).category = v.category := by cases v <;> rfl
def am_rl (ρ : Nat → Nat) (q : Nat × Value) : Nat × Value := (q.1, am_rv ρ q.2)
def am_E (ρ : Nat → Nat) (cI cJ cZ : ClassId) : amC → va_E
  | .inl (0, n, f) => .inl (cI, n, .inl f)
  | .inl (_ + 1, n, f) => .inl (cZ, n, .inl f)
  | .inr (.inl (n, f)) => .inl (cJ, n, .inr (.inl f))
  | .inr (.inr (c, fs)) => .inr (c, fs.map (am_rv ρ))
def am_ws (ρ : Nat → Nat) (cI cJ cZ : ClassId) (cs : List amC) : va_W := cs.mapIdx (fun i c => (ρ i, am_E ρ cI cJ cZ c))
theorem am_ws_at {ρ : Nat → Nat} {cI cJ cZ : ClassId} {cs : List amC} {i : Nat} {c : amC} (h : cs[i]? = some c) : (am_ws ρ cI cJ cZ cs)[i]? = some (ρ i, am_E ρ cI cJ cZ c) := by
  simp [am_ws, List.getElem?_mapIdx, h]
theorem am_ws_of {ρ : Nat → Nat} {cI cJ cZ : ClassId} {cs : List amC} {i : Nat} {q : Nat × va_E} (h : (am_ws ρ cI cJ cZ cs)[i]? = some q) : i < cs.length ∧ q.1 = ρ i := by
  simp only [am_ws, List.getElem?_mapIdx, Option.map_eq_some_iff] at h
  obtain ⟨c, h1, rfl⟩ := h
  exact ⟨(List.getElem?_eq_some_iff.mp h1).1, rfl⟩
theorem am_ws_set {ρ : Nat → Nat} {cI cJ cZ : ClassId} {cs : List amC} {i : Nat} {c : amC} : (am_ws ρ cI cJ cZ cs).set i (ρ i, am_E ρ cI cJ cZ c) = am_ws ρ cI cJ cZ (cs.set i c) := by
  apply List.ext_getElem?
  intro j
  simp only [am_ws, List.getElem?_set, List.getElem?_mapIdx, List.length_mapIdx]
  by_cases hij : i = j
  · subst hij
    by_cases hl : i < cs.length
    · simp [hl]
    · simp [hl]
  · simp [hij]
theorem am_ws_push {ρ : Nat → Nat} {cI cJ cZ : ClassId} {cs : List amC} {c : amC} : am_ws ρ cI cJ cZ (cs ++ [c]) = am_ws ρ cI cJ cZ cs ++ [(ρ cs.length, am_E ρ cI cJ cZ c)] := by
  simp [am_ws, List.mapIdx_append]
/-- the heap below the start's end is as it was -/
def am_Ba (Hb H : Heap) : Prop := Hb.size ≤ H.size ∧ ∀ q : Nat, q < Hb.size → H[q]? = Hb[q]?
def am_A (Hb : Heap) : Nat → Prop := fun q => Hb.size ≤ q
def am_Rep (ρ : Nat → Nat) (D : va_G) (cI cJ cZ : ClassId) (Hb : Heap) (w : amW) (H : Heap) : Prop :=
  va_P D vwCl (am_ws ρ cI cJ cZ w.1) H ∧ w.1.length ≤ 1000 ∧ (w.2.1 = 0 → H.size = Hb.size + w.1.length) ∧ am_Ba Hb H
def am_ρ (ρ : Nat → Nat) (Hb : Heap) : Prop := ∀ i, i < 1000 → ρ i = Hb.size + i
theorem am_D {ρ : Nat → Nat} {cI cJ cZ : ClassId} {Hb : Heap} (hρ : am_ρ ρ Hb) {cs : List amC} (hl : cs.length ≤ 1000) : va_D (am_A Hb) (am_ws ρ cI cJ cZ cs) := by
  refine ⟨fun i j p q hi hj e => ?_, fun k q hk => ?_⟩
  · obtain ⟨h1, h2⟩ := am_ws_of hi
    obtain ⟨h3, h4⟩ := am_ws_of hj
    rw [h2, h4, hρ i (by omega), hρ j (by omega)] at e
    omega
  · obtain ⟨h1, h2⟩ := am_ws_of hk
    show Hb.size ≤ q.1
    rw [h2, hρ k (by omega)]
    omega
def am_cN (w : amW) : Nat := w.1.length + w.2.1
def am_sN (w : amW) : Nat := w.2.2
/-! locals -/
theorem am_ld_mem {lv : List (Nat × Value)} {i : Nat} {v : Value} (h : am_ld lv i = some v) : (i, v) ∈ lv := by
  simp only [am_ld, Option.map_eq_some_iff] at h
  obtain ⟨q, h1, rfl⟩ := h
  have h2 := List.find?_some h1
  have h3 := List.mem_of_find?_eq_some h1
  have h4 : q.1 = i := by simpa using h2
  rw [← h4]
  exact h3
theorem am_lget {ρ : Nat → Nat} {ls : Array Slot} {nL : Nat} {lv : List (Nat × Value)} {i : Nat} {v : Value} (hl : lv_has ls nL (lv.map (am_rl ρ))) (h : am_ld lv i = some v) : ls[i]? = some (.val (am_rv ρ v)) :=
  hl.2.2 (am_rl ρ (i, v)) (List.mem_map_of_mem (am_ld_mem h))
theorem am_st1_map (ρ : Nat → Nat) (lv : List (Nat × Value)) (i : Nat) (v : Value) : (i, am_rv ρ v) :: (lv.map (am_rl ρ)).filter (fun q => !(q.1 == i) && !(q.1 + 1 == i && q.2.category == 2)) = (am_st1 lv i v).map (am_rl ρ) := by
  simp only [am_st1, List.map_cons, List.filter_map]
  congr 3
  funext q
  simp [am_rl, am_rv_cat]
theorem am_st2_map (ρ : Nat → Nat) (lv : List (Nat × Value)) (i : Nat) (v : Value) : (i, am_rv ρ v) :: (lv.map (am_rl ρ)).filter (fun q => !(q.1 == i) && (!(q.1 == i + 1) && !(q.1 + 1 == i && q.2.category == 2))) = (am_st2 lv i v).map (am_rl ρ) := by
  simp only [am_st2, List.map_cons, List.filter_map]
  congr 3
  funext q
  simp [am_rl, am_rv_cat]
/-! what an instruction found -/
theorem am_iload_inv {len i : Nat} {fr : amF} {w : amW} {r : amF × amW} (h : am_iload len i fr w = some r) : ∃ x, am_ld fr.2.1 i = some (.int x) ∧ r = ((fr.1 + len, fr.2.1, .int x :: fr.2.2), w) := by
  unfold am_iload at h
  split at h
  · next x e => exact ⟨x, e, (Option.some.inj h).symm⟩
  · cases h
theorem am_lload_inv {len i : Nat} {fr : amF} {w : amW} {r : amF × amW} (h : am_lload len i fr w = some r) : ∃ x, am_ld fr.2.1 i = some (.long x) ∧ r = ((fr.1 + len, fr.2.1, .long x :: fr.2.2), w) := by
  unfold am_lload at h
  split at h
  · next x e => exact ⟨x, e, (Option.some.inj h).symm⟩
  · cases h
theorem am_aload_inv {len i : Nat} {fr : amF} {w : amW} {r : amF × amW} (h : am_aload len i fr w = some r) : (∃ x, am_ld fr.2.1 i = some (.ref x) ∧ r = ((fr.1 + len, fr.2.1, .ref x :: fr.2.2), w)) ∨ (am_ld fr.2.1 i = some .null ∧ r = ((fr.1 + len, fr.2.1, .null :: fr.2.2), w)) := by
  unfold am_aload at h
  split at h
  · next x e => exact Or.inl ⟨x, e, (Option.some.inj h).symm⟩
  · next e => exact Or.inr ⟨e, (Option.some.inj h).symm⟩
  · cases h
theorem am_istore_inv {mL len i : Nat} {fr : amF} {w : amW} {r : amF × amW} (h : am_istore mL len i fr w = some r) : ∃ x st, fr.2.2 = .int x :: st ∧ i < mL ∧ r = ((fr.1 + len, am_st1 fr.2.1 i (.int x), st), w) := by
  unfold am_istore at h
  split at h
  · next x st e =>
    split at h
    · next hi => exact ⟨x, st, e, hi, (Option.some.inj h).symm⟩
    · cases h
  · cases h
theorem am_lstore_inv {mL len i : Nat} {fr : amF} {w : amW} {r : amF × amW} (h : am_lstore mL len i fr w = some r) : ∃ x st, fr.2.2 = .long x :: st ∧ i + 1 < mL ∧ r = ((fr.1 + len, am_st2 fr.2.1 i (.long x), st), w) := by
  unfold am_lstore at h
  split at h
  · next x st e =>
    split at h
    · next hi => exact ⟨x, st, e, hi, (Option.some.inj h).symm⟩
    · cases h
  · cases h
theorem am_astore_inv {mL len i : Nat} {fr : amF} {w : amW} {r : amF × amW} (h : am_astore mL len i fr w = some r) : ∃ v st, (v = .null ∨ ∃ x, v = .ref x) ∧ fr.2.2 = v :: st ∧ i < mL ∧ r = ((fr.1 + len, am_st1 fr.2.1 i v, st), w) := by
  unfold am_astore at h
  split at h
  · next x st e =>
    split at h
    · next hi => exact ⟨_, st, Or.inr ⟨x, rfl⟩, e, hi, (Option.some.inj h).symm⟩
    · cases h
  · next st e =>
    split at h
    · next hi => exact ⟨_, st, Or.inl rfl, e, hi, (Option.some.inj h).symm⟩
    · cases h
  · cases h
theorem am_iinc_inv {mL i : Nat} {n : Int} {fr : amF} {w : amW} {r : amF × amW} (h : am_iinc mL i n fr w = some r) : ∃ x, am_ld fr.2.1 i = some (.int x) ∧ i < mL ∧ r = ((fr.1 + 3, am_st1 fr.2.1 i (.int (x + Int32.ofInt n)), fr.2.2), w) := by
  unfold am_iinc at h
  split at h
  · next x e =>
    split at h
    · next hi => exact ⟨x, e, hi, (Option.some.inj h).symm⟩
    · cases h
  · cases h
theorem am_ii_inv {f : Int32 → Int32 → Int32} {fr : amF} {w : amW} {r : amF × amW} (h : am_ii f fr w = some r) : ∃ x y st, fr.2.2 = .int y :: .int x :: st ∧ r = ((fr.1 + 1, fr.2.1, .int (f x y) :: st), w) := by
  unfold am_ii at h
  split at h
  · next y x st e => exact ⟨x, y, st, e, (Option.some.inj h).symm⟩
  · cases h
theorem am_irem_inv {fr : amF} {w : amW} {r : amF × amW} (h : am_irem fr w = some r) : ∃ x y st, fr.2.2 = .int y :: .int x :: st ∧ ¬ y = 0 ∧ r = ((fr.1 + 1, fr.2.1, .int (x - x / y * y) :: st), w) := by
  unfold am_irem at h
  split at h
  · next y x st e =>
    split at h
    · cases h
    · next hy => exact ⟨x, y, st, e, hy, (Option.some.inj h).symm⟩
  · cases h
theorem am_i1_inv {f : Int32 → Value} {fr : amF} {w : amW} {r : amF × amW} (h : am_i1 f fr w = some r) : ∃ x st, fr.2.2 = .int x :: st ∧ r = ((fr.1 + 1, fr.2.1, f x :: st), w) := by
  unfold am_i1 at h
  split at h
  · next x st e => exact ⟨x, st, e, (Option.some.inj h).symm⟩
  · cases h
theorem am_l1_inv {f : Int64 → Value} {fr : amF} {w : amW} {r : amF × amW} (h : am_l1 f fr w = some r) : ∃ x st, fr.2.2 = .long x :: st ∧ r = ((fr.1 + 1, fr.2.1, f x :: st), w) := by
  unfold am_l1 at h
  split at h
  · next x st e => exact ⟨x, st, e, (Option.some.inj h).symm⟩
  · cases h
theorem am_ll_inv {f : Int64 → Int64 → Value} {fr : amF} {w : amW} {r : amF × amW} (h : am_ll f fr w = some r) : ∃ x y st, fr.2.2 = .long y :: .long x :: st ∧ r = ((fr.1 + 1, fr.2.1, f x y :: st), w) := by
  unfold am_ll at h
  split at h
  · next y x st e => exact ⟨x, y, st, e, (Option.some.inj h).symm⟩
  · cases h
theorem am_li_inv {f : Int64 → Int32 → Int64} {fr : amF} {w : amW} {r : amF × amW} (h : am_li f fr w = some r) : ∃ x y st, fr.2.2 = .int y :: .long x :: st ∧ r = ((fr.1 + 1, fr.2.1, .long (f x y) :: st), w) := by
  unfold am_li at h
  split at h
  · next y x st e => exact ⟨x, y, st, e, (Option.some.inj h).symm⟩
  · cases h
theorem am_dup_inv {fr : amF} {w : amW} {r : amF × amW} (h : am_dup fr w = some r) : ∃ v st, fr.2.2 = v :: st ∧ v.category = 1 ∧ r = ((fr.1 + 1, fr.2.1, v :: v :: st), w) := by
  unfold am_dup at h
  split at h
  · next v st e =>
    split at h
    · next hv => exact ⟨v, st, e, hv, (Option.some.inj h).symm⟩
    · cases h
  · cases h
theorem am_dup2_inv {fr : amF} {w : amW} {r : amF × amW} (h : am_dup2 fr w = some r) : (∃ v st, fr.2.2 = v :: st ∧ v.category = 2 ∧ r = ((fr.1 + 1, fr.2.1, v :: v :: st), w)) ∨ (∃ v u st, fr.2.2 = v :: u :: st ∧ v.category = 1 ∧ u.category = 1 ∧ r = ((fr.1 + 1, fr.2.1, v :: u :: v :: u :: st), w)) := by
  unfold am_dup2 at h
  split at h
  · next v st e =>
    split at h
    · next hv => exact Or.inl ⟨v, st, e, hv, (Option.some.inj h).symm⟩
    · split at h
      · next u st2 =>
        split at h
        · next hv => exact Or.inr ⟨v, u, st2, e, hv.1, hv.2, (Option.some.inj h).symm⟩
        · cases h
      · cases h
  · cases h
theorem am_pop_inv {fr : amF} {w : amW} {r : amF × amW} (h : am_pop fr w = some r) : ∃ v st, fr.2.2 = v :: st ∧ v.category = 1 ∧ r = ((fr.1 + 1, fr.2.1, st), w) := by
  unfold am_pop at h
  split at h
  · next v st e =>
    split at h
    · next hv => exact ⟨v, st, e, hv, (Option.some.inj h).symm⟩
    · cases h
  · cases h
theorem am_pop2_inv {fr : amF} {w : amW} {r : amF × amW} (h : am_pop2 fr w = some r) : ∃ v st, fr.2.2 = v :: st ∧ v.category = 2 ∧ r = ((fr.1 + 1, fr.2.1, st), w) := by
  unfold am_pop2 at h
  split at h
  · next v st e =>
    split at h
    · next hv => exact ⟨v, st, e, hv, (Option.some.inj h).symm⟩
    · cases h
  · cases h
theorem am_if_inv {c : ClassFile.Cond} {t : Int} {fr : amF} {w : amW} {r : amF × amW} (h : am_if c t fr w = some r) : ∃ x st, fr.2.2 = .int x :: st ∧ r = ((if am_holds c x 0 then t.toNat else fr.1 + 3, fr.2.1, st), w) := by
  unfold am_if at h
  split at h
  · next x st e => exact ⟨x, st, e, (Option.some.inj h).symm⟩
  · cases h
theorem am_icmp_inv {c : ClassFile.Cond} {t : Int} {fr : amF} {w : amW} {r : amF × amW} (h : am_icmp c t fr w = some r) : ∃ x y st, fr.2.2 = .int y :: .int x :: st ∧ r = ((if am_holds c x y then t.toNat else fr.1 + 3, fr.2.1, st), w) := by
  unfold am_icmp at h
  split at h
  · next y x st e => exact ⟨x, y, st, e, (Option.some.inj h).symm⟩
  · cases h
theorem am_ifnn_inv {t : Int} {fr : amF} {w : amW} {r : amF × amW} (h : am_ifnn t fr w = some r) : (∃ a st, fr.2.2 = .ref a :: st ∧ r = ((t.toNat, fr.2.1, st), w)) ∨ (∃ st, fr.2.2 = .null :: st ∧ r = ((fr.1 + 3, fr.2.1, st), w)) := by
  unfold am_ifnn at h
  split at h
  · next a st e => exact Or.inl ⟨a, st, e, (Option.some.inj h).symm⟩
  · next st e => exact Or.inr ⟨st, e, (Option.some.inj h).symm⟩
  · cases h
theorem am_table_inv {d lo hi : Int} {ts : Array Int} {fr : amF} {w : amW} {r : amF × amW} (h : am_table d lo hi ts fr w = some r) : ∃ x st, fr.2.2 = .int x :: st ∧ r = ((if x.toInt < lo ∨ hi < x.toInt then d.toNat else (ts.toList.getD (x.toInt - lo).toNat 0).toNat, fr.2.1, st), w) := by
  unfold am_table at h
  split at h
  · next x st e => exact ⟨x, st, e, (Option.some.inj h).symm⟩
  · cases h
theorem am_getf_inv {q : Nat} {fr : amF} {w : amW} {r : amF × amW} (h : am_getf q fr w = some r) : ∃ (a : Nat) (st : List Value), fr.2.2 = .ref a :: st ∧
    ((50000 ≤ q ∧ 1000 ≤ a ∧ a < 1019 ∧ ((q = 50000 ∧ r = ((fr.1 + 3, fr.2.1, .ref (a + 100) :: st), w)) ∨ (q = 50001 ∧ r = ((fr.1 + 3, fr.2.1, .int (am_opn.getD (a - 1000) 0) :: st), w)) ∨ (¬ q = 50000 ∧ ¬ q = 50001 ∧ r = ((fr.1 + 3, fr.2.1, .int (am_ord.getD (a - 1000) 0) :: st), w)))) ∨
     (¬ 50000 ≤ q ∧ ∃ fs v, w.1[a]? = some (.inr (.inr (q / 100 % 100, fs))) ∧ fs[q % 100]? = some v ∧ r = ((fr.1 + 3, fr.2.1, v :: st), w))) := by
  unfold am_getf at h
  split at h
  · next a st e =>
    refine ⟨a, st, e, ?_⟩
    split at h
    · next h5 =>
      left
      split at h
      · next ha =>
        refine ⟨h5, ha.1, ha.2, ?_⟩
        split at h
        · next h6 => exact Or.inl ⟨h6, (Option.some.inj h).symm⟩
        · next h6 =>
          split at h
          · next h7 => exact Or.inr (Or.inl ⟨h7, (Option.some.inj h).symm⟩)
          · next h7 => exact Or.inr (Or.inr ⟨h6, h7, (Option.some.inj h).symm⟩)
      · cases h
    · next h5 =>
      right
      refine ⟨h5, ?_⟩
      split at h
      · next c fs e2 =>
        split at h
        · next hc =>
          split at h
          · next v hv =>
            rw [hc] at e2
            exact ⟨fs, v, e2, hv, (Option.some.inj h).symm⟩
          · cases h
        · cases h
      · cases h
  · cases h
theorem am_putf_inv {q : Nat} {fr : amF} {w : amW} {r : amF × amW} (h : am_putf q fr w = some r) : ∃ v a st fs, fr.2.2 = v :: .ref a :: st ∧ w.1[a]? = some (.inr (.inr (q / 100 % 100, fs))) ∧ q % 100 < fs.length ∧ am_fit (am_ty (q / 100 % 100) (q % 100)) v = true ∧ r = ((fr.1 + 3, fr.2.1, st), (w.1.set a (.inr (.inr (q / 100 % 100, fs.set (q % 100) v))), w.2)) := by
  unfold am_putf at h
  split at h
  · next v a st e =>
    split at h
    · next c fs e2 =>
      split at h
      · next hc =>
        obtain ⟨h1, h2, h3⟩ := hc
        subst h1
        exact ⟨v, a, st, fs, e, e2, h2, h3, (Option.some.inj h).symm⟩
      · cases h
    · cases h
  · cases h
theorem am_alen_inv {X : amX} {fr : amF} {w : amW} {r : amF × amW} (h : am_alen X fr w = some r) : ∃ a st n, fr.2.2 = .ref a :: st ∧ am_len X w a = some n ∧ r = ((fr.1 + 1, fr.2.1, .int (Int32.ofNat n) :: st), w) := by
  unfold am_alen at h
  split at h
  · next a st e =>
    split at h
    · next n e2 => exact ⟨a, st, n, e, e2, (Option.some.inj h).symm⟩
    · cases h
  · cases h
theorem am_iald_inv {X : amX} {fr : amF} {w : amW} {r : amF × amW} (h : am_iald X fr w = some r) : ∃ i a st n f, fr.2.2 = .int i :: .ref a :: st ∧ am_ai X w a = some (n, f) ∧ vp_in i n ∧ r = ((fr.1 + 1, fr.2.1, .int (f i.toNatClampNeg) :: st), w) := by
  unfold am_iald at h
  split at h
  · next i a st e =>
    split at h
    · next n f e2 =>
      split at h
      · cases h
      · next hi => exact ⟨i, a, st, n, f, e, e2, hi, (Option.some.inj h).symm⟩
    · cases h
  · cases h
theorem am_lald_inv {fr : amF} {w : amW} {r : amF × amW} (h : am_lald fr w = some r) : ∃ i a st n f, fr.2.2 = .int i :: .ref a :: st ∧ w.1[a]? = some (.inr (.inl (n, f))) ∧ vp_in i n ∧ r = ((fr.1 + 1, fr.2.1, .long (f i.toNatClampNeg) :: st), w) := by
  unfold am_lald at h
  split at h
  · next i a st e =>
    split at h
    · next n f e2 =>
      split at h
      · cases h
      · next hi => exact ⟨i, a, st, n, f, e, e2, hi, (Option.some.inj h).symm⟩
    · cases h
  · cases h
theorem am_zald_inv {fr : amF} {w : amW} {r : amF × amW} (h : am_zald fr w = some r) : ∃ i a st n f, fr.2.2 = .int i :: .ref a :: st ∧ w.1[a]? = some (.inl (1, n, f)) ∧ vp_in i n ∧ r = ((fr.1 + 1, fr.2.1, .int (f i.toNatClampNeg) :: st), w) := by
  unfold am_zald at h
  split at h
  · next i a st e =>
    split at h
    · next n f e2 =>
      split at h
      · cases h
      · next hi => exact ⟨i, a, st, n, f, e, e2, hi, (Option.some.inj h).symm⟩
    · cases h
  · cases h
theorem am_aald_inv {fr : amF} {w : amW} {r : amF × amW} (h : am_aald fr w = some r) : ∃ i st, fr.2.2 = .int i :: .ref 1200 :: st ∧ vp_in i 19 ∧ r = ((fr.1 + 1, fr.2.1, .ref (1000 + i.toNatClampNeg) :: st), w) := by
  unfold am_aald at h
  split at h
  · next i a st e =>
    split at h
    · next hi =>
      rw [hi.1] at e
      exact ⟨i, st, e, hi.2, (Option.some.inj h).symm⟩
    · cases h
  · cases h
theorem am_iast_inv {fr : amF} {w : amW} {r : amF × amW} (h : am_iast fr w = some r) : ∃ x i a st n f, fr.2.2 = .int x :: .int i :: .ref a :: st ∧ w.1[a]? = some (.inl (0, n, f)) ∧ vp_in i n ∧ r = ((fr.1 + 1, fr.2.1, st), (w.1.set a (.inl (0, n, upd f i.toNatClampNeg x)), w.2)) := by
  unfold am_iast at h
  split at h
  · next x i a st e =>
    split at h
    · next n f e2 =>
      split at h
      · cases h
      · next hi => exact ⟨x, i, a, st, n, f, e, e2, hi, (Option.some.inj h).symm⟩
    · cases h
  · cases h
theorem am_last_inv {fr : amF} {w : amW} {r : amF × amW} (h : am_last fr w = some r) : ∃ x i a st n f, fr.2.2 = .long x :: .int i :: .ref a :: st ∧ w.1[a]? = some (.inr (.inl (n, f))) ∧ vp_in i n ∧ r = ((fr.1 + 1, fr.2.1, st), (w.1.set a (.inr (.inl (n, vp_updL f i.toNatClampNeg x))), w.2)) := by
  unfold am_last at h
  split at h
  · next x i a st e =>
    split at h
    · next n f e2 =>
      split at h
      · cases h
      · next hi => exact ⟨x, i, a, st, n, f, e, e2, hi, (Option.some.inj h).symm⟩
    · cases h
  · cases h
theorem am_zast_inv {fr : amF} {w : amW} {r : amF × amW} (h : am_zast fr w = some r) : ∃ x i a st n f, fr.2.2 = .int x :: .int i :: .ref a :: st ∧ w.1[a]? = some (.inl (1, n, f)) ∧ vp_in i n ∧ r = ((fr.1 + 1, fr.2.1, st), (w.1.set a (.inl (1, n, upd f i.toNatClampNeg (vp_nar .boolean x))), w.2)) := by
  unfold am_zast at h
  split at h
  · next x i a st e =>
    split at h
    · next n f e2 =>
      split at h
      · cases h
      · next hi => exact ⟨x, i, a, st, n, f, e, e2, hi, (Option.some.inj h).symm⟩
    · cases h
  · cases h
theorem am_newo_inv {c : Nat} {fr : amF} {w : amW} {r : amF × amW} (h : am_newo c fr w = some r) : c < 10 ∧ w.2.1 = 0 ∧ w.1.length < 1000 ∧ r = ((fr.1 + 3, fr.2.1, .ref w.1.length :: fr.2.2), (w.1 ++ [am_new c], w.2.1, w.2.2 + am_ns.getD c 0)) := by
  unfold am_newo at h
  split at h
  · next hc => exact ⟨hc.1, hc.2.1, hc.2.2, (Option.some.inj h).symm⟩
  · cases h
theorem am_newa_inv {t : ArrayType} {fr : amF} {w : amW} {r : amF × amW} (h : am_newa t fr w = some r) : ∃ n st c, fr.2.2 = .int n :: st ∧ ¬ n < 0 ∧ n.toNatClampNeg ≤ 1000000 ∧ w.2.1 = 0 ∧ w.1.length < 1000 ∧ r = ((fr.1 + 2, fr.2.1, .ref w.1.length :: st), (w.1 ++ [c], w.2.1, w.2.2 + n.toNatClampNeg)) ∧ ((t = .int ∧ c = .inl (0, n.toNatClampNeg, fun _ => 0)) ∨ (t = .boolean ∧ c = .inl (1, n.toNatClampNeg, fun _ => 0)) ∨ (t = .long ∧ c = .inr (.inl (n.toNatClampNeg, fun _ => 0)))) := by
  unfold am_newa at h
  split at h
  · next n st e =>
    split at h
    · next hn =>
      obtain ⟨h1, h2, h3, h4⟩ := hn
      split at h
      · exact ⟨n, st, _, e, h1, h2, h3, h4, (Option.some.inj h).symm, Or.inl ⟨rfl, rfl⟩⟩
      · exact ⟨n, st, _, e, h1, h2, h3, h4, (Option.some.inj h).symm, Or.inr (Or.inl ⟨rfl, rfl⟩)⟩
      · exact ⟨n, st, _, e, h1, h2, h3, h4, (Option.some.inj h).symm, Or.inr (Or.inr ⟨rfl, rfl⟩)⟩
      · cases h
    · cases h
  · cases h
theorem am_oi_inv {q : Nat} {fr : amF} {w : amW} {r : amF × amW} (h : am_oi q fr w = some r) : ∃ a st, fr.2.2 = .ref a :: st ∧ q = 903 ∧ (st.map fun v => v.category).sum ≤ 8 ∧ r = ((fr.1 + 3, fr.2.1, st), w) := by
  unfold am_oi at h
  split at h
  · next a st e =>
    split at h
    · next hq => exact ⟨a, st, e, hq.1, hq.2, (Option.some.inj h).symm⟩
    · cases h
  · cases h
