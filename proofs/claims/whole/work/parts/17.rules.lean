def az_ushr (x y : Int32) : Int32 := (x.toUInt32 >>> (y.toUInt32 &&& Int32.toUInt32 31)).toInt32
def az_lushr (x : Int64) (y : Int32) : Int64 := (x.toUInt64 >>> (y.toInt64.toUInt64 &&& Int64.toUInt64 63)).toInt64
def az_rem (x y : Int32) : Int32 := x - x / y * y
/-! AM's runs, read as functions of a state: what a function answers is what the run comes to -/
abbrev amS : Type := (Nat → Nat → Int32) × (Nat → Nat → Int64)
abbrev amQ : Type := Option (amO × amS)
def az_ex (o : amO) : Nat := match o with
  | .inl _ => 0
  | .inr _ => 1
def az_up {β : Type} (f : Nat → β) (a : Nat) (x : β) : Nat → β := fun b => if b = a then x else f b
def sI (S : amS) (a k : Nat) (x : Int32) : amS := (az_up S.1 a (upd (S.1 a) k x), S.2)
def sJ (S : amS) (a k : Nat) (x : Int64) : amS := (S.1, az_up S.2 a (vp_updL (S.2 a) k x))
/-- the list of locals lv' has all that lv has -/
def AL (lv lv' : List (Nat × Value)) : Prop := ∀ i v, am_ld lv i = some v → am_ld lv' i = some v
theorem am_ld_cons (i k : Nat) (v : Value) (lv : List (Nat × Value)) : am_ld ((i, v) :: lv) k = if k = i then some v else am_ld lv k := by
  unfold am_ld
  rw [List.find?_cons]
  by_cases h : k = i
  · subst h; simp
  · rw [if_neg h]
    have h1 : (i == k) = false := by simp; exact fun h2 => h h2.symm
    simp only [h1]
theorem al_nil {lv : List (Nat × Value)} : AL [] lv := fun i v h => by simp [am_ld] at h
theorem al_cons {lv lv' : List (Nat × Value)} {i : Nat} {v : Value} (h : am_ld lv' i = some v) (t : AL lv lv') : AL ((i, v) :: lv) lv' := by
  intro k u hk
  rw [am_ld_cons] at hk
  by_cases e : k = i
  · rw [if_pos e] at hk; cases hk; rw [e]; exact h
  · rw [if_neg e] at hk; exact t k u hk
theorem al_refl {a : List (Nat × Value)} : AL a a := fun _ _ h => h
theorem al_trans {a b c : List (Nat × Value)} (h : AL a b) (t : AL b c) : AL a c := fun i v e => t i v (h i v e)
/-- no local twice -/
def az_nd : List (Nat × Value) → Bool
  | [] => true
  | q :: l => (l.all (fun r => !(r.1 == q.1))) && az_nd l
theorem az_no : ∀ {l : List (Nat × Value)} {k : Nat}, l.all (fun r => !(r.1 == k)) = true → am_ld l k = none
  | [], k, _ => rfl
  | (j, w) :: l, k, h => by
    simp only [List.all_cons, Bool.and_eq_true, Bool.not_eq_true', beq_eq_false_iff_ne] at h
    rw [am_ld_cons, if_neg (fun e => h.1 e.symm)]
    exact az_no (by simpa using h.2)
theorem az_lf (P : Nat × Value → Bool) : ∀ {l : List (Nat × Value)} {k : Nat} {u : Value}, az_nd l = true → am_ld (l.filter P) k = some u → am_ld l k = some u ∧ P (k, u) = true
  | [], k, u, _, h => by simp [am_ld] at h
  | (j, w) :: l, k, u, hn, h => by
    simp only [az_nd, Bool.and_eq_true] at hn
    rw [List.filter_cons] at h
    rw [am_ld_cons]
    by_cases e : k = j
    · subst e
      rw [if_pos rfl]
      split at h
      · next hp => rw [am_ld_cons, if_pos rfl] at h; cases h; exact ⟨rfl, hp⟩
      · obtain ⟨h1, h2⟩ := az_lf P hn.2 h
        rw [az_no hn.1] at h1; cases h1
    · rw [if_neg e]
      split at h
      · rw [am_ld_cons, if_neg e] at h; exact az_lf P hn.2 h
      · exact az_lf P hn.2 h
theorem az_fl (P : Nat × Value → Bool) : ∀ {l : List (Nat × Value)} {k : Nat} {u : Value}, am_ld l k = some u → P (k, u) = true → am_ld (l.filter P) k = some u
  | [], k, u, h, _ => by simp [am_ld] at h
  | (j, w) :: l, k, u, h, hp => by
    rw [am_ld_cons] at h
    rw [List.filter_cons]
    by_cases e : k = j
    · subst e
      rw [if_pos rfl] at h
      cases h
      rw [if_pos hp, am_ld_cons, if_pos rfl]
    · rw [if_neg e] at h
      split
      · rw [am_ld_cons, if_neg e]; exact az_fl P h hp
      · exact az_fl P h hp
theorem al_st1 {lv lv' : List (Nat × Value)} (i : Nat) (v : Value) (hn : az_nd lv = true) (h : AL lv lv') : AL (am_st1 lv i v) (am_st1 lv' i v) := by
  intro k u hk
  unfold am_st1 at hk ⊢
  rw [am_ld_cons] at hk ⊢
  by_cases e : k = i
  · rw [if_pos e] at hk ⊢; exact hk
  · rw [if_neg e] at hk ⊢
    obtain ⟨h1, h2⟩ := az_lf _ hn hk
    exact az_fl _ (h k u h1) h2
theorem al_st2 {lv lv' : List (Nat × Value)} (i : Nat) (v : Value) (hn : az_nd lv = true) (h : AL lv lv') : AL (am_st2 lv i v) (am_st2 lv' i v) := by
  intro k u hk
  unfold am_st2 at hk ⊢
  rw [am_ld_cons] at hk ⊢
  by_cases e : k = i
  · rw [if_pos e] at hk ⊢; exact hk
  · rw [if_neg e] at hk ⊢
    obtain ⟨h1, h2⟩ := az_lf _ hn hk
    exact az_fl _ (h k u h1) h2
/-- from here, with at least the locals lv, the frame comes to what R says -/
def AW {α : Type} (X : amX) (d : Nat) (M : amM) (wd : α → Nat → amW) (e pc : Nat) (lv : List (Nat × Value)) (st : List Value) (S : α) (R : Option (amO × α)) : Prop :=
  ∀ o T, R = some (o, T) → ∀ lv', AL lv lv' → ∃ n, AMl X (AMc X d) M n (pc, lv', st) (wd S e) o (wd T (e + az_ex o))
/-- the method comes to what R says -/
def CW {α : Type} (X : amX) (d j : Nat) (as : List Value) (wd : α → Nat → amW) (S : α) (R : Option (amO × α)) : Prop :=
  ∀ e o T, R = some (o, T) → AMc X d j as (wd S e) o (wd T (e + az_ex o))
/-! what a function's text is made of -/
def az_ck {β : Type} (i : Int32) (n : Nat) (R : Option β) : Option β := if i < 0 ∨ n ≤ i.toNatClampNeg then none else R
def az_if {β : Type} (P : Prop) [Decidable P] (R : Option β) : Option β := if P then R else none
def az_st {α β : Type} (S : α) (K : α → Option β) : Option β := K S
def az_bI {α : Type} (r : Option (amO × α)) (k : Int32 → α → Option (amO × α)) : Option (amO × α) := match r with
  | some (.inl (some (.int x)), S) => k x S
  | some (.inr x, S) => some (.inr x, S)
  | _ => none
def az_bJ {α : Type} (r : Option (amO × α)) (k : Int64 → α → Option (amO × α)) : Option (amO × α) := match r with
  | some (.inl (some (.long x)), S) => k x S
  | some (.inr x, S) => some (.inr x, S)
  | _ => none
def az_bV {α : Type} (r : Option (amO × α)) (k : α → Option (amO × α)) : Option (amO × α) := match r with
  | some (.inl none, S) => k S
  | some (.inr x, S) => some (.inr x, S)
  | _ => none
def az_bW {α : Type} (r : Option (amO × α)) (k : Nat → α → Option (amO × α)) (k0 : α → Option (amO × α)) : Option (amO × α) := match r with
  | some (.inl (some (.ref x)), S) => k x S
  | some (.inl (some .null), S) => k0 S
  | some (.inr x, S) => some (.inr x, S)
  | _ => none
section AWR
variable {α : Type} {X : amX} {d : Nat} {M : amM} {wd : α → Nat → amW} {e pc len ix : Nat} {lv lv1 : List (Nat × Value)} {st : List Value} {S : α} {R R1 R2 : Option (amO × α)}
theorem aw_none : AW X d M wd e pc lv st S none := fun o T h => by cases h
theorem aw_sub (h : AL lv lv1) (k : AW X d M wd e pc lv st S R) : AW X d M wd e pc lv1 st S R := fun o T hR lv' hl => k o T hR lv' (al_trans h hl)
theorem aw_gen {ins : Instr} {pc1 : Nat} {st1 : List Value} {S1 : α} (hat : am_at M pc = some (ins, len, ix)) (hn : ∀ lv', AL lv lv' → ∃ lv1', am_next X (am_mL M) ins len (pc, lv', st) (wd S e) = some ((pc1, lv1', st1), wd S1 e) ∧ AL lv1 lv1') (k : AW X d M wd e pc1 lv1 st1 S1 R) : AW X d M wd e pc lv st S R := by
  intro o T hR lv' hl
  obtain ⟨lv1', h1, h2⟩ := hn lv' hl
  obtain ⟨n, h3⟩ := k o T hR lv1' h2
  exact ⟨n + 1, ins, len, ix, hat, Or.inl ⟨_, _, h1, h3⟩⟩
theorem aw_pass {ins : Instr} {pc1 : Nat} {st1 : List Value} {S1 : α} (hat : am_at M pc = some (ins, len, ix)) (hn : ∀ lv', am_next X (am_mL M) ins len (pc, lv', st) (wd S e) = some ((pc1, lv', st1), wd S1 e)) (k : AW X d M wd e pc1 lv st1 S1 R) : AW X d M wd e pc lv st S R :=
  aw_gen hat (fun lv' hl => ⟨lv', hn lv', hl⟩) k
theorem aw_put {ins : Instr} {pc1 : Nat} {st1 : List Value} {S' : α} {K : α → Option (amO × α)} (hat : am_at M pc = some (ins, len, ix)) (hn : ∀ lv', am_next X (am_mL M) ins len (pc, lv', st) (wd S e) = some ((pc1, lv', st1), wd S' e)) (k : ∀ S1, AW X d M wd e pc1 lv st1 S1 (K S1)) : AW X d M wd e pc lv st S (az_st S' K) :=
  aw_gen hat (fun lv' hl => ⟨lv', hn lv', hl⟩) (k S')
theorem aw_name {β : Type} {v : β} {K : β → Option (amO × α)} {F : β → List Value} (hF : F v = st) (k : ∀ x, AW X d M wd e pc lv (F x) S (K x)) : AW X d M wd e pc lv st S (az_st v K) := by
  rw [← hF]; exact k v
theorem aw_nameI {v : Int32} {K : Int32 → Option (amO × α)} (k : ∀ x, AW X d M wd e pc lv (.int x :: st) S (K x)) : AW X d M wd e pc lv (.int v :: st) S (az_st v K) := k v
theorem aw_nameJ {v : Int64} {K : Int64 → Option (amO × α)} (k : ∀ x, AW X d M wd e pc lv (.long x :: st) S (K x)) : AW X d M wd e pc lv (.long v :: st) S (az_st v K) := k v
theorem aw_ic {n : Int} (v : Int32) (hat : am_at M pc = some (.iconst n, len, ix)) (hv : Int32.ofInt n = v) (k : AW X d M wd e (pc + len) lv (.int v :: st) S R) : AW X d M wd e pc lv st S R :=
  aw_pass hat (fun lv' => by rw [← hv]; rfl) k
theorem aw_lc {n : Int} (v : Int64) (hat : am_at M pc = some (.jsr_w n, len, ix)) (hv : Int64.ofInt n = v) (k : AW X d M wd e (pc + len) lv (.long v :: st) S R) : AW X d M wd e pc lv st S R :=
  aw_pass hat (fun lv' => by rw [← hv]; rfl) k
theorem aw_null (hat : am_at M pc = some (.aconst_null, 1, ix)) (k : AW X d M wd e (pc + 1) lv (.null :: st) S R) : AW X d M wd e pc lv st S R := aw_pass hat (fun lv' => rfl) k
theorem aw_ldc (hat : am_at M pc = some (.ldc 1119, 2, ix)) (k : AW X d M wd e (pc + 2) lv (.ref 1119 :: st) S R) : AW X d M wd e pc lv st S R := aw_pass hat (fun lv' => rfl) k
theorem aw_iload {i : Nat} {x : Int32} (hat : am_at M pc = some (.iload i, len, ix)) (h : am_ld lv i = some (.int x)) (k : AW X d M wd e (pc + len) lv (.int x :: st) S R) : AW X d M wd e pc lv st S R :=
  aw_gen hat (fun lv' hl => ⟨lv', by show am_iload len i _ _ = _; unfold am_iload; rw [show am_ld (pc, lv', st).2.1 i = some (.int x) from hl _ _ h]; rfl, hl⟩) k
theorem aw_lload {i : Nat} {x : Int64} (hat : am_at M pc = some (.lload i, len, ix)) (h : am_ld lv i = some (.long x)) (k : AW X d M wd e (pc + len) lv (.long x :: st) S R) : AW X d M wd e pc lv st S R :=
  aw_gen hat (fun lv' hl => ⟨lv', by show am_lload len i _ _ = _; unfold am_lload; rw [show am_ld (pc, lv', st).2.1 i = some (.long x) from hl _ _ h]; rfl, hl⟩) k
theorem aw_aload {i : Nat} {x : Nat} (hat : am_at M pc = some (.aload i, len, ix)) (h : am_ld lv i = some (.ref x)) (k : AW X d M wd e (pc + len) lv (.ref x :: st) S R) : AW X d M wd e pc lv st S R :=
  aw_gen hat (fun lv' hl => ⟨lv', by show am_aload len i _ _ = _; unfold am_aload; rw [show am_ld (pc, lv', st).2.1 i = some (.ref x) from hl _ _ h]; rfl, hl⟩) k
theorem aw_aloadn {i : Nat} (hat : am_at M pc = some (.aload i, len, ix)) (h : am_ld lv i = some .null) (k : AW X d M wd e (pc + len) lv (.null :: st) S R) : AW X d M wd e pc lv st S R :=
  aw_gen hat (fun lv' hl => ⟨lv', by show am_aload len i _ _ = _; unfold am_aload; rw [show am_ld (pc, lv', st).2.1 i = some .null from hl _ _ h]; rfl, hl⟩) k
theorem aw_istore {i : Nat} {x : Int32} (hat : am_at M pc = some (.istore i, len, ix)) (hi : i < am_mL M) (hn : az_nd lv = true) (hs : am_st1 lv i (.int x) = lv1) (k : AW X d M wd e (pc + len) lv1 st S R) : AW X d M wd e pc lv (.int x :: st) S R :=
  aw_gen (pc1 := pc + len) (st1 := st) (S1 := S) hat (fun lv' hl => ⟨am_st1 lv' i (.int x), if_pos hi, by rw [← hs]; exact al_st1 i _ hn hl⟩) k
theorem aw_lstore {i : Nat} {x : Int64} (hat : am_at M pc = some (.lstore i, len, ix)) (hi : i + 1 < am_mL M) (hn : az_nd lv = true) (hs : am_st2 lv i (.long x) = lv1) (k : AW X d M wd e (pc + len) lv1 st S R) : AW X d M wd e pc lv (.long x :: st) S R :=
  aw_gen (pc1 := pc + len) (st1 := st) (S1 := S) hat (fun lv' hl => ⟨am_st2 lv' i (.long x), if_pos hi, by rw [← hs]; exact al_st2 i _ hn hl⟩) k
theorem aw_astore {i x : Nat} (hat : am_at M pc = some (.astore i, len, ix)) (hi : i < am_mL M) (hn : az_nd lv = true) (hs : am_st1 lv i (.ref x) = lv1) (k : AW X d M wd e (pc + len) lv1 st S R) : AW X d M wd e pc lv (.ref x :: st) S R :=
  aw_gen (pc1 := pc + len) (st1 := st) (S1 := S) hat (fun lv' hl => ⟨am_st1 lv' i (.ref x), if_pos hi, by rw [← hs]; exact al_st1 i _ hn hl⟩) k
theorem aw_astoren {i : Nat} (hat : am_at M pc = some (.astore i, len, ix)) (hi : i < am_mL M) (hn : az_nd lv = true) (hs : am_st1 lv i .null = lv1) (k : AW X d M wd e (pc + len) lv1 st S R) : AW X d M wd e pc lv (.null :: st) S R :=
  aw_gen (pc1 := pc + len) (st1 := st) (S1 := S) hat (fun lv' hl => ⟨am_st1 lv' i .null, if_pos hi, by rw [← hs]; exact al_st1 i _ hn hl⟩) k
theorem aw_iinc {i : Nat} {x v : Int32} {n : Int} (hat : am_at M pc = some (.iinc i n, 3, ix)) (h : am_ld lv i = some (.int x)) (hi : i < am_mL M) (hn : az_nd lv = true) (hv : Int32.ofInt n = v) (hs : am_st1 lv i (.int (x + v)) = lv1) (k : AW X d M wd e (pc + 3) lv1 st S R) : AW X d M wd e pc lv st S R :=
  aw_gen hat (fun lv' hl => ⟨am_st1 lv' i (.int (x + v)), by
    show am_iinc (am_mL M) i n _ _ = _
    unfold am_iinc
    rw [show am_ld (pc, lv', st).2.1 i = some (.int x) from hl _ _ h, ← hv]
    exact if_pos hi, by rw [← hs]; exact al_st1 i _ hn hl⟩) k
theorem aw_goto {t : Int} (hat : am_at M pc = some (.goto t, 3, ix)) (k : AW X d M wd e t.toNat lv st S R) : AW X d M wd e pc lv st S R := aw_pass hat (fun lv' => rfl) k
theorem aw_iadd {x y : Int32} (hat : am_at M pc = some (.iadd, 1, ix)) (k : AW X d M wd e (pc + 1) lv (.int (x + y) :: st) S R) : AW X d M wd e pc lv (.int y :: .int x :: st) S R := aw_pass hat (fun lv' => rfl) k
theorem aw_isub {x y : Int32} (hat : am_at M pc = some (.isub, 1, ix)) (k : AW X d M wd e (pc + 1) lv (.int (x - y) :: st) S R) : AW X d M wd e pc lv (.int y :: .int x :: st) S R := aw_pass hat (fun lv' => rfl) k
theorem aw_imul {x y : Int32} (hat : am_at M pc = some (.imul, 1, ix)) (k : AW X d M wd e (pc + 1) lv (.int (x * y) :: st) S R) : AW X d M wd e pc lv (.int y :: .int x :: st) S R := aw_pass hat (fun lv' => rfl) k
theorem aw_iand {x y : Int32} (hat : am_at M pc = some (.iand, 1, ix)) (k : AW X d M wd e (pc + 1) lv (.int (x &&& y) :: st) S R) : AW X d M wd e pc lv (.int y :: .int x :: st) S R := aw_pass hat (fun lv' => rfl) k
theorem aw_ishr {x y : Int32} (hat : am_at M pc = some (.ishr, 1, ix)) (k : AW X d M wd e (pc + 1) lv (.int (x >>> (y &&& 31)) :: st) S R) : AW X d M wd e pc lv (.int y :: .int x :: st) S R := aw_pass hat (fun lv' => rfl) k
theorem aw_iushr {x y : Int32} (hat : am_at M pc = some (.iushr, 1, ix)) (k : AW X d M wd e (pc + 1) lv (.int (az_ushr x y) :: st) S R) : AW X d M wd e pc lv (.int y :: .int x :: st) S R := aw_pass hat (fun lv' => rfl) k
theorem aw_irem {x y : Int32} (hat : am_at M pc = some (.irem, 1, ix)) (hy : ¬ y = 0) (k : AW X d M wd e (pc + 1) lv (.int (az_rem x y) :: st) S R) : AW X d M wd e pc lv (.int y :: .int x :: st) S R := aw_pass (pc1 := pc + 1) (st1 := .int (az_rem x y) :: st) (S1 := S) hat (fun lv' => if_neg hy) k
theorem aw_ineg {x : Int32} (hat : am_at M pc = some (.ineg, 1, ix)) (k : AW X d M wd e (pc + 1) lv (.int (-x) :: st) S R) : AW X d M wd e pc lv (.int x :: st) S R := aw_pass hat (fun lv' => rfl) k
theorem aw_i2l {x : Int32} (hat : am_at M pc = some (.i2l, 1, ix)) (k : AW X d M wd e (pc + 1) lv (.long x.toInt64 :: st) S R) : AW X d M wd e pc lv (.int x :: st) S R := aw_pass hat (fun lv' => rfl) k
theorem aw_l2i {x : Int64} (hat : am_at M pc = some (.l2i, 1, ix)) (k : AW X d M wd e (pc + 1) lv (.int x.toInt32 :: st) S R) : AW X d M wd e pc lv (.long x :: st) S R := aw_pass hat (fun lv' => rfl) k
theorem aw_land {x y : Int64} (hat : am_at M pc = some (.land, 1, ix)) (k : AW X d M wd e (pc + 1) lv (.long (x &&& y) :: st) S R) : AW X d M wd e pc lv (.long y :: .long x :: st) S R := aw_pass hat (fun lv' => rfl) k
theorem aw_lor {x y : Int64} (hat : am_at M pc = some (.lor, 1, ix)) (k : AW X d M wd e (pc + 1) lv (.long (x ||| y) :: st) S R) : AW X d M wd e pc lv (.long y :: .long x :: st) S R := aw_pass hat (fun lv' => rfl) k
theorem aw_lcmp {x y : Int64} (hat : am_at M pc = some (.lcmp, 1, ix)) (k : AW X d M wd e (pc + 1) lv (.int (lg_cmp x y) :: st) S R) : AW X d M wd e pc lv (.long y :: .long x :: st) S R := aw_pass hat (fun lv' => rfl) k
theorem aw_lshl {x : Int64} {y : Int32} (hat : am_at M pc = some (.lshl, 1, ix)) (k : AW X d M wd e (pc + 1) lv (.long (x <<< (y.toInt64 &&& 63)) :: st) S R) : AW X d M wd e pc lv (.int y :: .long x :: st) S R := aw_pass hat (fun lv' => rfl) k
theorem aw_lshr {x : Int64} {y : Int32} (hat : am_at M pc = some (.lshr, 1, ix)) (k : AW X d M wd e (pc + 1) lv (.long (x >>> (y.toInt64 &&& 63)) :: st) S R) : AW X d M wd e pc lv (.int y :: .long x :: st) S R := aw_pass hat (fun lv' => rfl) k
theorem aw_lushr {x : Int64} {y : Int32} (hat : am_at M pc = some (.lushr, 1, ix)) (k : AW X d M wd e (pc + 1) lv (.long (az_lushr x y) :: st) S R) : AW X d M wd e pc lv (.int y :: .long x :: st) S R := aw_pass hat (fun lv' => rfl) k
theorem aw_dupI {x : Int32} (hat : am_at M pc = some (.dup, 1, ix)) (k : AW X d M wd e (pc + 1) lv (.int x :: .int x :: st) S R) : AW X d M wd e pc lv (.int x :: st) S R := aw_pass hat (fun lv' => rfl) k
theorem aw_popI {x : Int32} (hat : am_at M pc = some (.pop, 1, ix)) (k : AW X d M wd e (pc + 1) lv st S R) : AW X d M wd e pc lv (.int x :: st) S R := aw_pass hat (fun lv' => rfl) k
theorem aw_dupA {x : Nat} (hat : am_at M pc = some (.dup, 1, ix)) (k : AW X d M wd e (pc + 1) lv (.ref x :: .ref x :: st) S R) : AW X d M wd e pc lv (.ref x :: st) S R := aw_pass hat (fun lv' => rfl) k
theorem aw_popA {x : Nat} (hat : am_at M pc = some (.pop, 1, ix)) (k : AW X d M wd e (pc + 1) lv st S R) : AW X d M wd e pc lv (.ref x :: st) S R := aw_pass hat (fun lv' => rfl) k
theorem aw_pop2J {x : Int64} (hat : am_at M pc = some (.pop2, 1, ix)) (k : AW X d M wd e (pc + 1) lv st S R) : AW X d M wd e pc lv (.long x :: st) S R := aw_pass hat (fun lv' => rfl) k
theorem aw_dup2IA {x : Int32} {a : Nat} (hat : am_at M pc = some (.dup2, 1, ix)) (k : AW X d M wd e (pc + 1) lv (.int x :: .ref a :: .int x :: .ref a :: st) S R) : AW X d M wd e pc lv (.int x :: .ref a :: st) S R := aw_pass hat (fun lv' => rfl) k
theorem aw_if_eq {x : Int32} {t : Int} (hat : am_at M pc = some (.ifCond .eq t, 3, ix)) (k1 : AW X d M wd e t.toNat lv st S R1) (k2 : AW X d M wd e (pc + 3) lv st S R2) : AW X d M wd e pc lv (.int x :: st) S (if x = 0 then R1 else R2) := by
  by_cases h : x = 0
  · rw [if_pos h]
    exact aw_pass hat (fun lv' => by show some ((if am_holds .eq x 0 = true then t.toNat else pc + 3, lv', st), wd S e) = _; rw [if_pos (show am_holds .eq x 0 = true from decide_eq_true h)]) k1
  · rw [if_neg h]
    exact aw_pass hat (fun lv' => by show some ((if am_holds .eq x 0 = true then t.toNat else pc + 3, lv', st), wd S e) = _; rw [if_neg (by simp only [am_holds, decide_eq_true_eq]; exact h)]) k2
theorem aw_icmp_eq {x y : Int32} {t : Int} (hat : am_at M pc = some (.if_icmp .eq t, 3, ix)) (k1 : AW X d M wd e t.toNat lv st S R1) (k2 : AW X d M wd e (pc + 3) lv st S R2) : AW X d M wd e pc lv (.int y :: .int x :: st) S (if x = y then R1 else R2) := by
  by_cases h : x = y
  · rw [if_pos h]
    exact aw_pass hat (fun lv' => by show some ((if am_holds .eq x y = true then t.toNat else pc + 3, lv', st), wd S e) = _; rw [if_pos (show am_holds .eq x y = true from decide_eq_true h)]) k1
  · rw [if_neg h]
    exact aw_pass hat (fun lv' => by show some ((if am_holds .eq x y = true then t.toNat else pc + 3, lv', st), wd S e) = _; rw [if_neg (by simp only [am_holds, decide_eq_true_eq]; exact h)]) k2
theorem aw_if_ne {x : Int32} {t : Int} (hat : am_at M pc = some (.ifCond .ne t, 3, ix)) (k1 : AW X d M wd e t.toNat lv st S R1) (k2 : AW X d M wd e (pc + 3) lv st S R2) : AW X d M wd e pc lv (.int x :: st) S (if x = 0 then R2 else R1) := by
  by_cases h : x = 0
  · rw [if_pos h]
    exact aw_pass hat (fun lv' => by show some ((if am_holds .ne x 0 = true then t.toNat else pc + 3, lv', st), wd S e) = _; rw [if_neg (by simp [am_holds, h])]) k2
  · rw [if_neg h]
    exact aw_pass hat (fun lv' => by show some ((if am_holds .ne x 0 = true then t.toNat else pc + 3, lv', st), wd S e) = _; rw [if_pos (by simp only [am_holds, decide_eq_true_eq]; exact h)]) k1
theorem aw_icmp_ne {x y : Int32} {t : Int} (hat : am_at M pc = some (.if_icmp .ne t, 3, ix)) (k1 : AW X d M wd e t.toNat lv st S R1) (k2 : AW X d M wd e (pc + 3) lv st S R2) : AW X d M wd e pc lv (.int y :: .int x :: st) S (if x = y then R2 else R1) := by
  by_cases h : x = y
  · rw [if_pos h]
    exact aw_pass hat (fun lv' => by show some ((if am_holds .ne x y = true then t.toNat else pc + 3, lv', st), wd S e) = _; rw [if_neg (by simp [am_holds, h])]) k2
  · rw [if_neg h]
    exact aw_pass hat (fun lv' => by show some ((if am_holds .ne x y = true then t.toNat else pc + 3, lv', st), wd S e) = _; rw [if_pos (by simp only [am_holds, decide_eq_true_eq]; exact h)]) k1
theorem aw_if_lt {x : Int32} {t : Int} (hat : am_at M pc = some (.ifCond .lt t, 3, ix)) (k1 : AW X d M wd e t.toNat lv st S R1) (k2 : AW X d M wd e (pc + 3) lv st S R2) : AW X d M wd e pc lv (.int x :: st) S (if x < 0 then R1 else R2) := by
  by_cases h : x < 0
  · rw [if_pos h]
    exact aw_pass hat (fun lv' => by show some ((if am_holds .lt x 0 = true then t.toNat else pc + 3, lv', st), wd S e) = _; rw [if_pos (show am_holds .lt x 0 = true from decide_eq_true h)]) k1
  · rw [if_neg h]
    exact aw_pass hat (fun lv' => by show some ((if am_holds .lt x 0 = true then t.toNat else pc + 3, lv', st), wd S e) = _; rw [if_neg (by simp only [am_holds, decide_eq_true_eq]; exact h)]) k2
theorem aw_icmp_lt {x y : Int32} {t : Int} (hat : am_at M pc = some (.if_icmp .lt t, 3, ix)) (k1 : AW X d M wd e t.toNat lv st S R1) (k2 : AW X d M wd e (pc + 3) lv st S R2) : AW X d M wd e pc lv (.int y :: .int x :: st) S (if x < y then R1 else R2) := by
  by_cases h : x < y
  · rw [if_pos h]
    exact aw_pass hat (fun lv' => by show some ((if am_holds .lt x y = true then t.toNat else pc + 3, lv', st), wd S e) = _; rw [if_pos (show am_holds .lt x y = true from decide_eq_true h)]) k1
  · rw [if_neg h]
    exact aw_pass hat (fun lv' => by show some ((if am_holds .lt x y = true then t.toNat else pc + 3, lv', st), wd S e) = _; rw [if_neg (by simp only [am_holds, decide_eq_true_eq]; exact h)]) k2
theorem aw_if_ge {x : Int32} {t : Int} (hat : am_at M pc = some (.ifCond .ge t, 3, ix)) (k1 : AW X d M wd e t.toNat lv st S R1) (k2 : AW X d M wd e (pc + 3) lv st S R2) : AW X d M wd e pc lv (.int x :: st) S (if 0 ≤ x then R1 else R2) := by
  by_cases h : 0 ≤ x
  · rw [if_pos h]
    exact aw_pass hat (fun lv' => by show some ((if am_holds .ge x 0 = true then t.toNat else pc + 3, lv', st), wd S e) = _; rw [if_pos (show am_holds .ge x 0 = true from decide_eq_true h)]) k1
  · rw [if_neg h]
    exact aw_pass hat (fun lv' => by show some ((if am_holds .ge x 0 = true then t.toNat else pc + 3, lv', st), wd S e) = _; rw [if_neg (by simp only [am_holds, decide_eq_true_eq]; exact h)]) k2
theorem aw_icmp_ge {x y : Int32} {t : Int} (hat : am_at M pc = some (.if_icmp .ge t, 3, ix)) (k1 : AW X d M wd e t.toNat lv st S R1) (k2 : AW X d M wd e (pc + 3) lv st S R2) : AW X d M wd e pc lv (.int y :: .int x :: st) S (if y ≤ x then R1 else R2) := by
  by_cases h : y ≤ x
  · rw [if_pos h]
    exact aw_pass hat (fun lv' => by show some ((if am_holds .ge x y = true then t.toNat else pc + 3, lv', st), wd S e) = _; rw [if_pos (show am_holds .ge x y = true from decide_eq_true h)]) k1
  · rw [if_neg h]
    exact aw_pass hat (fun lv' => by show some ((if am_holds .ge x y = true then t.toNat else pc + 3, lv', st), wd S e) = _; rw [if_neg (by simp only [am_holds, decide_eq_true_eq]; exact h)]) k2
theorem aw_if_gt {x : Int32} {t : Int} (hat : am_at M pc = some (.ifCond .gt t, 3, ix)) (k1 : AW X d M wd e t.toNat lv st S R1) (k2 : AW X d M wd e (pc + 3) lv st S R2) : AW X d M wd e pc lv (.int x :: st) S (if 0 < x then R1 else R2) := by
  by_cases h : 0 < x
  · rw [if_pos h]
    exact aw_pass hat (fun lv' => by show some ((if am_holds .gt x 0 = true then t.toNat else pc + 3, lv', st), wd S e) = _; rw [if_pos (show am_holds .gt x 0 = true from decide_eq_true h)]) k1
  · rw [if_neg h]
    exact aw_pass hat (fun lv' => by show some ((if am_holds .gt x 0 = true then t.toNat else pc + 3, lv', st), wd S e) = _; rw [if_neg (by simp only [am_holds, decide_eq_true_eq]; exact h)]) k2
theorem aw_icmp_gt {x y : Int32} {t : Int} (hat : am_at M pc = some (.if_icmp .gt t, 3, ix)) (k1 : AW X d M wd e t.toNat lv st S R1) (k2 : AW X d M wd e (pc + 3) lv st S R2) : AW X d M wd e pc lv (.int y :: .int x :: st) S (if y < x then R1 else R2) := by
  by_cases h : y < x
  · rw [if_pos h]
    exact aw_pass hat (fun lv' => by show some ((if am_holds .gt x y = true then t.toNat else pc + 3, lv', st), wd S e) = _; rw [if_pos (show am_holds .gt x y = true from decide_eq_true h)]) k1
  · rw [if_neg h]
    exact aw_pass hat (fun lv' => by show some ((if am_holds .gt x y = true then t.toNat else pc + 3, lv', st), wd S e) = _; rw [if_neg (by simp only [am_holds, decide_eq_true_eq]; exact h)]) k2
theorem aw_if_le {x : Int32} {t : Int} (hat : am_at M pc = some (.ifCond .le t, 3, ix)) (k1 : AW X d M wd e t.toNat lv st S R1) (k2 : AW X d M wd e (pc + 3) lv st S R2) : AW X d M wd e pc lv (.int x :: st) S (if x ≤ 0 then R1 else R2) := by
  by_cases h : x ≤ 0
  · rw [if_pos h]
    exact aw_pass hat (fun lv' => by show some ((if am_holds .le x 0 = true then t.toNat else pc + 3, lv', st), wd S e) = _; rw [if_pos (show am_holds .le x 0 = true from decide_eq_true h)]) k1
  · rw [if_neg h]
    exact aw_pass hat (fun lv' => by show some ((if am_holds .le x 0 = true then t.toNat else pc + 3, lv', st), wd S e) = _; rw [if_neg (by simp only [am_holds, decide_eq_true_eq]; exact h)]) k2
theorem aw_icmp_le {x y : Int32} {t : Int} (hat : am_at M pc = some (.if_icmp .le t, 3, ix)) (k1 : AW X d M wd e t.toNat lv st S R1) (k2 : AW X d M wd e (pc + 3) lv st S R2) : AW X d M wd e pc lv (.int y :: .int x :: st) S (if x ≤ y then R1 else R2) := by
  by_cases h : x ≤ y
  · rw [if_pos h]
    exact aw_pass hat (fun lv' => by show some ((if am_holds .le x y = true then t.toNat else pc + 3, lv', st), wd S e) = _; rw [if_pos (show am_holds .le x y = true from decide_eq_true h)]) k1
  · rw [if_neg h]
    exact aw_pass hat (fun lv' => by show some ((if am_holds .le x y = true then t.toNat else pc + 3, lv', st), wd S e) = _; rw [if_neg (by simp only [am_holds, decide_eq_true_eq]; exact h)]) k2
theorem aw_nnA {a : Nat} {t : Int} (hat : am_at M pc = some (.ifnonnull t, 3, ix)) (k : AW X d M wd e t.toNat lv st S R) : AW X d M wd e pc lv (.ref a :: st) S R := aw_pass hat (fun lv' => rfl) k
theorem aw_nnN {t : Int} (hat : am_at M pc = some (.ifnonnull t, 3, ix)) (k : AW X d M wd e (pc + 3) lv st S R) : AW X d M wd e pc lv (.null :: st) S R := aw_pass hat (fun lv' => rfl) k
theorem aw_case {x : Int32} (v : Int32) (h1 : AW X d M wd e pc lv (.int v :: st) S R1) (h2 : ¬ x = v → AW X d M wd e pc lv (.int x :: st) S R2) : AW X d M wd e pc lv (.int x :: st) S (if x = v then R1 else R2) := by
  by_cases h : x = v
  · rw [if_pos h, h]; exact h1
  · rw [if_neg h]; exact h2 h
theorem aw_tin {v : Int32} {dd lo hi : Int} {ts : Array Int} (t : Nat) (hat : am_at M pc = some (.tableswitch dd lo hi ts, len, ix)) (ht : (if v.toInt < lo ∨ hi < v.toInt then dd.toNat else (ts.toList.getD (v.toInt - lo).toNat 0).toNat) = t) (k : AW X d M wd e t lv st S R) : AW X d M wd e pc lv (.int v :: st) S R := aw_pass hat (fun lv' => by rw [← ht]; rfl) k
theorem aw_tout {x : Int32} {dd lo hi : Int} {ts : Array Int} (hat : am_at M pc = some (.tableswitch dd lo hi ts, len, ix)) (ho : x.toInt < lo ∨ hi < x.toInt) (k : AW X d M wd e dd.toNat lv st S R) : AW X d M wd e pc lv (.int x :: st) S R := aw_pass hat (fun lv' => by show some ((if x.toInt < lo ∨ hi < x.toInt then dd.toNat else (ts.toList.getD (x.toInt - lo).toNat 0).toNat, lv', st), wd S e) = _; rw [if_pos ho]) k
theorem az_ne {x : Int32} (v : Int32) {n : Int} (hv : v.toInt = n) (h : ¬ x = v) : x.toInt ≠ n := fun h1 => h (Int32.toInt_inj.mp (h1.trans hv.symm))
/-- fields -/
theorem aw_getf {q a : Nat} {v : Value} (hat : am_at M pc = some (.getfield q, 3, ix)) (hg : ∀ (pc : Nat) lv st, am_getf q (pc, lv, .ref a :: st) (wd S e) = some ((pc + 3, lv, v :: st), wd S e)) (k : AW X d M wd e (pc + 3) lv (v :: st) S R) : AW X d M wd e pc lv (.ref a :: st) S R := aw_pass hat (fun lv' => hg pc lv' st) k
theorem aw_putf {q a : Nat} {v : Value} {S' : α} {K : α → Option (amO × α)} (hat : am_at M pc = some (.putfield q, 3, ix)) (hg : ∀ (pc : Nat) lv st, am_putf q (pc, lv, v :: .ref a :: st) (wd S e) = some ((pc + 3, lv, st), wd S' e)) (k : ∀ S1, AW X d M wd e (pc + 3) lv st S1 (K S1)) : AW X d M wd e pc lv (v :: .ref a :: st) S (az_st S' K) := aw_put hat (fun lv' => hg pc lv' st) k
theorem aw_getw {q a : Nat} (v : Value) (hat : am_at M pc = some (.getfield q, 3, ix)) (hv : (q = 50000 ∧ v = .ref (a + 100)) ∨ (q = 50001 ∧ v = .int (am_opn.getD (a - 1000) 0)) ∨ (q = 50002 ∧ v = .int (am_ord.getD (a - 1000) 0))) (k : AW X d M wd e (pc + 3) lv (v :: st) S R) : AW X d M wd e pc lv (.ref a :: st) S (az_if (1000 ≤ a ∧ a < 1019) R) := by
  unfold az_if
  split
  · next h =>
    refine aw_pass hat (fun lv' => ?_) k
    show am_getf q (pc, lv', .ref a :: st) (wd S e) = _
    rcases hv with ⟨rfl, rfl⟩ | ⟨rfl, rfl⟩ | ⟨rfl, rfl⟩ <;> simp [am_getf, h]
  · exact aw_none
theorem aw_gets {q a : Nat} (hat : am_at M pc = some (.getstatic q, 3, ix)) (hq : (q = 0 ∧ a = 1200) ∨ (q = 1 ∧ a = 1201)) (k : AW X d M wd e (pc + 3) lv (.ref a :: st) S R) : AW X d M wd e pc lv st S R := aw_pass hat (fun lv' => by rcases hq with ⟨rfl, rfl⟩ | ⟨rfl, rfl⟩ <;> rfl) k
theorem aw_ord {a : Nat} (hat : am_at M pc = some (.invokevirtual 900, 3, ix)) (hs : (st.map fun v => v.category).sum ≤ 7) (k : AW X d M wd e (pc + 3) lv (.int (Int32.ofNat (a - 1000)) :: st) S R) : AW X d M wd e pc lv (.ref a :: st) S (az_if (1000 ≤ a ∧ a < 1019) R) := by
  unfold az_if
  split
  · next h =>
    refine aw_pass hat (fun lv' => ?_) k
    show am_bi 900 (pc, lv', .ref a :: st) (wd S e) = _
    have h9 : ((Value.ref a :: st).map fun v => v.category).sum ≤ 8 := by
      rw [List.map_cons, List.sum_cons]; show 1 + _ ≤ 8; omega
    unfold am_bi
    rw [if_pos h9]
    simp [h]
  · exact aw_none
theorem aw_slen {a : Nat} (hat : am_at M pc = some (.invokevirtual 901, 3, ix)) (hs : (st.map fun v => v.category).sum ≤ 7) (k : AW X d M wd e (pc + 3) lv (.int (Int32.ofNat (am_tx.getD (a - 1100) []).length) :: st) S R) : AW X d M wd e pc lv (.ref a :: st) S (az_if (1100 ≤ a ∧ a < 1120) R) := by
  unfold az_if
  split
  · next h =>
    refine aw_pass hat (fun lv' => ?_) k
    show am_bi 901 (pc, lv', .ref a :: st) (wd S e) = _
    have h9 : ((Value.ref a :: st).map fun v => v.category).sum ≤ 8 := by
      rw [List.map_cons, List.sum_cons]; show 1 + _ ≤ 8; omega
    unfold am_bi
    rw [if_pos h9]
    simp [h]
  · exact aw_none
theorem aw_chr {a : Nat} {i : Int32} (hat : am_at M pc = some (.invokevirtual 902, 3, ix)) (hs : (st.map fun v => v.category).sum ≤ 6) (k : AW X d M wd e (pc + 3) lv (.int ((am_tx.getD (a - 1100) []).getD i.toNatClampNeg 0) :: st) S R) : AW X d M wd e pc lv (.int i :: .ref a :: st) S (az_if (1100 ≤ a ∧ a < 1120) (az_ck i (am_tx.getD (a - 1100) []).length R)) := by
  unfold az_if
  split
  · next h =>
    unfold az_ck
    split
    · exact aw_none
    · next h1 =>
      refine aw_pass hat (fun lv' => ?_) k
      show am_bi 902 (pc, lv', .int i :: .ref a :: st) (wd S e) = _
      have h9 : ((Value.int i :: Value.ref a :: st).map fun v => v.category).sum ≤ 8 := by
        rw [List.map_cons, List.sum_cons, List.map_cons, List.sum_cons]; show 1 + (1 + _) ≤ 8; omega
      unfold am_bi
      rw [if_pos h9]
      exact if_pos ⟨rfl, h.1, h.2, h1⟩
  · exact aw_none
/-- rows -/
theorem aw_alen {a n : Nat} (v : Int32) (hat : am_at M pc = some (.arraylength, 1, ix)) (ha : am_len X (wd S e) a = some n) (hv : Int32.ofNat n = v) (k : AW X d M wd e (pc + 1) lv (.int v :: st) S R) : AW X d M wd e pc lv (.ref a :: st) S R := aw_pass hat (fun lv' => by
  show am_alen X (pc, lv', .ref a :: st) (wd S e) = _
  simp only [am_alen, ha, hv]) k
theorem aw_iald {a n : Nat} {f : Nat → Int32} {i : Int32} (hat : am_at M pc = some (.iaload, 1, ix)) (ha : am_ai X (wd S e) a = some (n, f)) (k : AW X d M wd e (pc + 1) lv (.int (f i.toNatClampNeg) :: st) S R) : AW X d M wd e pc lv (.int i :: .ref a :: st) S (az_ck i n R) := by
  unfold az_ck
  split
  · exact aw_none
  · next h1 =>
    refine aw_pass hat (fun lv' => ?_) k
    show am_iald X (pc, lv', .int i :: .ref a :: st) (wd S e) = _
    simp only [am_iald, ha]
    exact if_neg h1
theorem aw_lald {a n : Nat} {f : Nat → Int64} {i : Int32} (hat : am_at M pc = some (.laload, 1, ix)) (ha : (wd S e).1[a]? = some (.inr (.inl (n, f)))) (k : AW X d M wd e (pc + 1) lv (.long (f i.toNatClampNeg) :: st) S R) : AW X d M wd e pc lv (.int i :: .ref a :: st) S (az_ck i n R) := by
  unfold az_ck
  split
  · exact aw_none
  · next h1 =>
    refine aw_pass hat (fun lv' => ?_) k
    show am_lald (pc, lv', .int i :: .ref a :: st) (wd S e) = _
    simp only [am_lald, ha]
    exact if_neg h1
theorem aw_zald {a n : Nat} {f : Nat → Int32} {i : Int32} (hat : am_at M pc = some (.baload, 1, ix)) (ha : (wd S e).1[a]? = some (.inl (1, n, f))) (k : AW X d M wd e (pc + 1) lv (.int (f i.toNatClampNeg) :: st) S R) : AW X d M wd e pc lv (.int i :: .ref a :: st) S (az_ck i n R) := by
  unfold az_ck
  split
  · exact aw_none
  · next h1 =>
    refine aw_pass hat (fun lv' => ?_) k
    show am_zald (pc, lv', .int i :: .ref a :: st) (wd S e) = _
    simp only [am_zald, ha]
    exact if_neg h1
theorem aw_aald {i : Int32} (hat : am_at M pc = some (.aaload, 1, ix)) (k : AW X d M wd e (pc + 1) lv (.ref (1000 + i.toNatClampNeg) :: st) S R) : AW X d M wd e pc lv (.int i :: .ref 1200 :: st) S (az_ck i 19 R) := by
  unfold az_ck
  split
  · exact aw_none
  · next h1 => exact aw_pass (pc1 := pc + 1) (st1 := .ref (1000 + i.toNatClampNeg) :: st) (S1 := S) hat (fun lv' => if_pos ⟨rfl, h1⟩) k
theorem aw_iast {a n : Nat} {f : Nat → Int32} {i x : Int32} {S' : α} {K : α → Option (amO × α)} (hat : am_at M pc = some (.iastore, 1, ix)) (ha : (wd S e).1[a]? = some (.inl (0, n, f))) (hs : ((wd S e).1.set a (.inl (0, n, upd f i.toNatClampNeg x)), (wd S e).2) = wd S' e) (k : ∀ S1, AW X d M wd e (pc + 1) lv st S1 (K S1)) : AW X d M wd e pc lv (.int x :: .int i :: .ref a :: st) S (az_ck i n (az_st S' K)) := by
  unfold az_ck
  split
  · exact aw_none
  · next h1 =>
    refine aw_put hat (fun lv' => ?_) k
    show am_iast (pc, lv', .int x :: .int i :: .ref a :: st) (wd S e) = _
    simp only [am_iast, ha]
    rw [← hs]
    exact if_neg h1
theorem aw_last {a n : Nat} {f : Nat → Int64} {i : Int32} {x : Int64} {S' : α} {K : α → Option (amO × α)} (hat : am_at M pc = some (.lastore, 1, ix)) (ha : (wd S e).1[a]? = some (.inr (.inl (n, f)))) (hs : ((wd S e).1.set a (.inr (.inl (n, vp_updL f i.toNatClampNeg x))), (wd S e).2) = wd S' e) (k : ∀ S1, AW X d M wd e (pc + 1) lv st S1 (K S1)) : AW X d M wd e pc lv (.long x :: .int i :: .ref a :: st) S (az_ck i n (az_st S' K)) := by
  unfold az_ck
  split
  · exact aw_none
  · next h1 =>
    refine aw_put hat (fun lv' => ?_) k
    show am_last (pc, lv', .long x :: .int i :: .ref a :: st) (wd S e) = _
    simp only [am_last, ha]
    rw [← hs]
    exact if_neg h1
theorem aw_zast {a n : Nat} {f : Nat → Int32} {i x : Int32} {S' : α} {K : α → Option (amO × α)} (hat : am_at M pc = some (.bastore, 1, ix)) (ha : (wd S e).1[a]? = some (.inl (1, n, f))) (hs : ((wd S e).1.set a (.inl (1, n, upd f i.toNatClampNeg (vp_nar .boolean x))), (wd S e).2) = wd S' e) (k : ∀ S1, AW X d M wd e (pc + 1) lv st S1 (K S1)) : AW X d M wd e pc lv (.int x :: .int i :: .ref a :: st) S (az_ck i n (az_st S' K)) := by
  unfold az_ck
  split
  · exact aw_none
  · next h1 =>
    refine aw_put hat (fun lv' => ?_) k
    show am_zast (pc, lv', .int x :: .int i :: .ref a :: st) (wd S e) = _
    simp only [am_zast, ha]
    rw [← hs]
    exact if_neg h1
/-- ends -/
theorem aw_rV (hat : am_at M pc = some (.return_, len, ix)) (hr : am_rt M = none) : AW X d M wd e pc lv [] S (some (.inl none, S)) := by
  intro o T h lv' hl
  cases h
  exact ⟨1, .return_, len, ix, hat, Or.inr (Or.inl ⟨none, by rw [hr]; rfl, rfl, rfl⟩)⟩
theorem aw_rI {x : Int32} (hat : am_at M pc = some (.ireturn, len, ix)) (hr : am_rt M = some .int) : AW X d M wd e pc lv [.int x] S (some (.inl (some (.int x)), S)) := by
  intro o T h lv' hl
  cases h
  exact ⟨1, .ireturn, len, ix, hat, Or.inr (Or.inl ⟨some (.int x), by rw [hr]; rfl, rfl, rfl⟩)⟩
theorem aw_rZ {x : Int32} (hat : am_at M pc = some (.ireturn, len, ix)) (hr : am_rt M = some .boolean) (hx : x = 0 ∨ x = 1) : AW X d M wd e pc lv [.int x] S (some (.inl (some (.int x)), S)) := by
  intro o T h lv' hl
  cases h
  exact ⟨1, .ireturn, len, ix, hat, Or.inr (Or.inl ⟨some (.int x), by rw [hr]; exact if_pos hx, rfl, rfl⟩)⟩
theorem aw_rZ2 {x : Int32} (hat : am_at M pc = some (.ireturn, len, ix)) (hr : am_rt M = some .boolean) : AW X d M wd e pc lv [.int x] S (az_if (x = 0 ∨ x = 1) (some (.inl (some (.int x)), S))) := by
  unfold az_if
  split
  · next h => exact aw_rZ hat hr h
  · exact aw_none
theorem aw_rJ {x : Int64} (hat : am_at M pc = some (.lreturn, len, ix)) (hr : am_rt M = some .long) : AW X d M wd e pc lv [.long x] S (some (.inl (some (.long x)), S)) := by
  intro o T h lv' hl
  cases h
  exact ⟨1, .lreturn, len, ix, hat, Or.inr (Or.inl ⟨some (.long x), by rw [hr]; rfl, rfl, rfl⟩)⟩
theorem aw_rA {x : Nat} {c : String} (hat : am_at M pc = some (.areturn, len, ix)) (hr : am_rt M = some (.object c)) : AW X d M wd e pc lv [.ref x] S (some (.inl (some (.ref x)), S)) := by
  intro o T h lv' hl
  cases h
  exact ⟨1, .areturn, len, ix, hat, Or.inr (Or.inl ⟨some (.ref x), by rw [hr]; rfl, rfl, rfl⟩)⟩
theorem aw_rN {c : String} (hat : am_at M pc = some (.areturn, len, ix)) (hr : am_rt M = some (.object c)) : AW X d M wd e pc lv [.null] S (some (.inl (some .null), S)) := by
  intro o T h lv' hl
  cases h
  exact ⟨1, .areturn, len, ix, hat, Or.inr (Or.inl ⟨some .null, by rw [hr]; rfl, rfl, rfl⟩)⟩
theorem aw_thr {q x : Nat} (hat : am_at M pc = some (.new q, len, ix)) (ht : am_thr (.new q) st = some x) (hh : am_hh M = []) (hw : ((wd S e).1, (wd S e).2.1 + 1, (wd S e).2.2 + 6) = wd S (e + 1)) : AW X d M wd e pc lv st S (some (.inr x, S)) := by
  intro o T h lv' hl
  cases h
  refine ⟨1, .new q, len, ix, hat, ?_⟩
  exact Or.inr (Or.inr (Or.inr (Or.inr (Or.inr ⟨x, ht, hh, rfl, hw.symm⟩))))
/-- calls -/
theorem aw_callR {ins : Instr} {j : Nat} {as rest : List Value} {R' : Option (amO × α)} (hat : am_at M pc = some (ins, 3, ix)) (hinv : am_inv ins (wd S e) st = some (j, as, rest)) (hc : CW X d j as wd S R') (hns : ∀ i, ins ≠ .invokespecial i) (hh : am_hh M = [])
    (hR : ∀ o T, R = some (o, T) → ∃ o1 S1, R' = some (o1, S1) ∧ ((∃ v, o1 = .inl v ∧ AW X d M wd e (pc + 3) lv (v.toList ++ rest) S1 R) ∨ (∃ x, o1 = .inr x ∧ o = .inr x ∧ T = S1))) : AW X d M wd e pc lv st S R := by
  intro o T h lv' hl
  obtain ⟨o1, S1, h1, h2⟩ := hR o T h
  have h3 := hc e o1 S1 h1
  rcases h2 with ⟨v, rfl, h4⟩ | ⟨x, rfl, rfl, rfl⟩
  · obtain ⟨n, h5⟩ := h4 o T h lv' hl
    exact ⟨n + 1, ins, 3, ix, hat, Or.inr (Or.inr (Or.inl ⟨j, as, rest, v, _, hinv, h3, h5⟩))⟩
  · exact ⟨1, ins, 3, ix, hat, Or.inr (Or.inr (Or.inr (Or.inl ⟨j, as, rest, x, _, hinv, h3, hns, hh, rfl, rfl⟩)))⟩
theorem aw_cI {ins : Instr} {j : Nat} {as rest : List Value} {R' : Option (amO × α)} {K : Int32 → α → Option (amO × α)} (hat : am_at M pc = some (ins, 3, ix)) (hinv : am_inv ins (wd S e) st = some (j, as, rest)) (hc : CW X d j as wd S R') (hns : ∀ i, ins ≠ .invokespecial i) (hh : am_hh M = [])
    (k : ∀ x S1, AW X d M wd e (pc + 3) lv (.int x :: rest) S1 (K x S1)) : AW X d M wd e pc lv st S (az_bI R' K) := by
  refine aw_callR hat hinv hc hns hh (fun o T h => ?_)
  unfold az_bI at h ⊢
  split at h
  · next x S1 => exact ⟨_, S1, rfl, Or.inl ⟨some (.int x), rfl, k x S1⟩⟩
  · next x S1 => cases h; exact ⟨_, _, rfl, Or.inr ⟨x, rfl, rfl, rfl⟩⟩
  · cases h
theorem aw_cJ {ins : Instr} {j : Nat} {as rest : List Value} {R' : Option (amO × α)} {K : Int64 → α → Option (amO × α)} (hat : am_at M pc = some (ins, 3, ix)) (hinv : am_inv ins (wd S e) st = some (j, as, rest)) (hc : CW X d j as wd S R') (hns : ∀ i, ins ≠ .invokespecial i) (hh : am_hh M = [])
    (k : ∀ x S1, AW X d M wd e (pc + 3) lv (.long x :: rest) S1 (K x S1)) : AW X d M wd e pc lv st S (az_bJ R' K) := by
  refine aw_callR hat hinv hc hns hh (fun o T h => ?_)
  unfold az_bJ at h ⊢
  split at h
  · next x S1 => exact ⟨_, S1, rfl, Or.inl ⟨some (.long x), rfl, k x S1⟩⟩
  · next x S1 => cases h; exact ⟨_, _, rfl, Or.inr ⟨x, rfl, rfl, rfl⟩⟩
  · cases h
theorem aw_cV {ins : Instr} {j : Nat} {as rest : List Value} {R' : Option (amO × α)} {K : α → Option (amO × α)} (hat : am_at M pc = some (ins, 3, ix)) (hinv : am_inv ins (wd S e) st = some (j, as, rest)) (hc : CW X d j as wd S R') (hns : ∀ i, ins ≠ .invokespecial i) (hh : am_hh M = [])
    (k : ∀ S1, AW X d M wd e (pc + 3) lv rest S1 (K S1)) : AW X d M wd e pc lv st S (az_bV R' K) := by
  refine aw_callR hat hinv hc hns hh (fun o T h => ?_)
  unfold az_bV at h ⊢
  split at h
  · next S1 => exact ⟨_, S1, rfl, Or.inl ⟨none, rfl, k S1⟩⟩
  · next x S1 => cases h; exact ⟨_, _, rfl, Or.inr ⟨x, rfl, rfl, rfl⟩⟩
  · cases h
theorem aw_cW {ins : Instr} {j : Nat} {as rest : List Value} {R' : Option (amO × α)} {K : Nat → α → Option (amO × α)} {K0 : α → Option (amO × α)} (hat : am_at M pc = some (ins, 3, ix)) (hinv : am_inv ins (wd S e) st = some (j, as, rest)) (hc : CW X d j as wd S R') (hns : ∀ i, ins ≠ .invokespecial i) (hh : am_hh M = [])
    (k : ∀ (x : Nat) S1, AW X d M wd e (pc + 3) lv (.ref x :: rest) S1 (K x S1)) (k0 : ∀ S1, AW X d M wd e (pc + 3) lv (.null :: rest) S1 (K0 S1)) : AW X d M wd e pc lv st S (az_bW R' K K0) := by
  refine aw_callR hat hinv hc hns hh (fun o T h => ?_)
  unfold az_bW at h ⊢
  split at h
  · next x S1 => exact ⟨_, S1, rfl, Or.inl ⟨some (.ref x), rfl, k x S1⟩⟩
  · next S1 => exact ⟨_, S1, rfl, Or.inl ⟨some .null, rfl, k0 S1⟩⟩
  · next x S1 => cases h; exact ⟨_, _, rfl, Or.inr ⟨x, rfl, rfl, rfl⟩⟩
  · cases h
/-- a call whose answer is plain: no state is changed, or changed as S1 says -/
theorem aw_pI {ins : Instr} {j : Nat} {as rest : List Value} {x : Int32} (hat : am_at M pc = some (ins, 3, ix)) (hinv : am_inv ins (wd S e) st = some (j, as, rest)) (hc : CW X d j as wd S (some (.inl (some (.int x)), S))) (k : AW X d M wd e (pc + 3) lv (.int x :: rest) S R) : AW X d M wd e pc lv st S R := by
  intro o T h lv' hl
  obtain ⟨n, h5⟩ := k o T h lv' hl
  exact ⟨n + 1, ins, 3, ix, hat, Or.inr (Or.inr (Or.inl ⟨j, as, rest, _, _, hinv, hc e _ _ rfl, h5⟩))⟩
theorem aw_pJ {ins : Instr} {j : Nat} {as rest : List Value} {x : Int64} (hat : am_at M pc = some (ins, 3, ix)) (hinv : am_inv ins (wd S e) st = some (j, as, rest)) (hc : CW X d j as wd S (some (.inl (some (.long x)), S))) (k : AW X d M wd e (pc + 3) lv (.long x :: rest) S R) : AW X d M wd e pc lv st S R := by
  intro o T h lv' hl
  obtain ⟨n, h5⟩ := k o T h lv' hl
  exact ⟨n + 1, ins, 3, ix, hat, Or.inr (Or.inr (Or.inl ⟨j, as, rest, _, _, hinv, hc e _ _ rfl, h5⟩))⟩
theorem aw_pV {ins : Instr} {j : Nat} {as rest : List Value} {S' : α} {K : α → Option (amO × α)} (hat : am_at M pc = some (ins, 3, ix)) (hinv : am_inv ins (wd S e) st = some (j, as, rest)) (hc : CW X d j as wd S (some (.inl none, S'))) (k : ∀ S1, AW X d M wd e (pc + 3) lv rest S1 (K S1)) : AW X d M wd e pc lv st S (az_st S' K) := by
  intro o T h lv' hl
  obtain ⟨n, h5⟩ := k S' o T h lv' hl
  exact ⟨n + 1, ins, 3, ix, hat, Or.inr (Or.inr (Or.inl ⟨j, as, rest, _, _, hinv, hc e _ _ rfl, h5⟩))⟩
theorem cw_of {j : Nat} {as : List Value} (hM : am_M j = some M) (hy : (am_y M).name ≠ "law") (hlen : (lg_sl as).length ≤ am_mL M) (hl : lv_args 0 as = lv) (h : ∀ e, AW X d M wd e 0 lv [] S R) : CW X (d + 1) j as wd S R := by
  intro e o T hR
  obtain ⟨n, h1⟩ := h e o T hR lv al_refl
  exact ⟨M, n, hM, hy, hlen, by rw [hl]; exact h1⟩
theorem cw_up {j : Nat} {as : List Value} (hd : 1 ≤ d) (h : ∀ d', d = d' + 1 → CW X (d' + 1) j as wd S R) : CW X d j as wd S R := by
  obtain ⟨d', rfl⟩ : ∃ d', d = d' + 1 := ⟨d - 1, by omega⟩
  exact h d' rfl
end AWR
