/-! no fuel: what the functions come to when there is enough of it -/
def FL {β : Type} (a b : Option β) : Prop := a = none ∨ a = b
section FLR
variable {β : Type}
theorem fl_refl {a : Option β} : FL a a := Or.inr rfl
theorem fl_none {b : Option β} : FL none b := Or.inl rfl
theorem fl_trans {a b c : Option β} (h : FL a b) (t : FL b c) : FL a c := by
  rcases h with h | h
  · exact Or.inl h
  · rw [h]; exact t
theorem fl_ite {c : Prop} [Decidable c] {a a' b b' : Option β} (h1 : FL a a') (h2 : FL b b') : FL (if c then a else b) (if c then a' else b') := by
  split
  · exact h1
  · exact h2
theorem fl_ck {i : Int32} {n : Nat} {a a' : Option β} (h : FL a a') : FL (az_ck i n a) (az_ck i n a') := by
  unfold az_ck; split
  · exact fl_refl
  · exact h
theorem fl_if {c : Prop} [Decidable c] {a a' : Option β} (h : FL a a') : FL (az_if c a) (az_if c a') := by
  unfold az_if; split
  · exact h
  · exact fl_refl
theorem fl_st {γ : Type} {v : γ} {K K' : γ → Option β} (h : ∀ x, FL (K x) (K' x)) : FL (az_st v K) (az_st v K') := h v
end FLR
theorem fl_bI {α : Type} {r r' : Option (amO × α)} {K K' : Int32 → α → Option (amO × α)} (h : FL r r') (k : ∀ x S, FL (K x S) (K' x S)) : FL (az_bI r K) (az_bI r' K') := by
  rcases h with h | h
  · rw [h]; exact fl_none
  · rw [h]; unfold az_bI; split
    · exact k _ _
    · exact fl_refl
    · exact fl_refl
theorem fl_bJ {α : Type} {r r' : Option (amO × α)} {K K' : Int64 → α → Option (amO × α)} (h : FL r r') (k : ∀ x S, FL (K x S) (K' x S)) : FL (az_bJ r K) (az_bJ r' K') := by
  rcases h with h | h
  · rw [h]; exact fl_none
  · rw [h]; unfold az_bJ; split
    · exact k _ _
    · exact fl_refl
    · exact fl_refl
theorem fl_bV {α : Type} {r r' : Option (amO × α)} {K K' : α → Option (amO × α)} (h : FL r r') (k : ∀ S, FL (K S) (K' S)) : FL (az_bV r K) (az_bV r' K') := by
  rcases h with h | h
  · rw [h]; exact fl_none
  · rw [h]; unfold az_bV; split
    · exact k _
    · exact fl_refl
    · exact fl_refl
theorem fl_bW {α : Type} {r r' : Option (amO × α)} {K K' : Nat → α → Option (amO × α)} {K0 K0' : α → Option (amO × α)} (h : FL r r') (k : ∀ x S, FL (K x S) (K' x S)) (k0 : ∀ S, FL (K0 S) (K0' S)) : FL (az_bW r K K0) (az_bW r' K' K0') := by
  rcases h with h | h
  · rw [h]; exact fl_none
  · rw [h]; unfold az_bW; split
    · exact k _ _
    · exact k0 _
    · exact fl_refl
    · exact fl_refl
theorem fl_lfC {s : lawS} {r r' : amQ} (h : FL r r') : FL (lfC s r) (lfC s r') := by
  rcases h with h | h
  · rw [h]; exact fl_none
  · rw [h]; exact fl_refl
theorem fl_lfM {s : lawS} {r r' : amQ} (h : FL r r') : FL (lfM s r) (lfM s r') := by
  rcases h with h | h
  · rw [h]; exact fl_none
  · rw [h]; exact fl_refl
theorem fl_tI1 {r r' : lawQ} {K K' : Int32 → lawS → lawQ} {h0 : lawS → lawQ} (h : FL r r') (k : ∀ x S, FL (K x S) (K' x S)) : FL (az_tI1 r K h0) (az_tI1 r' K' h0) := by
  rcases h with h | h
  · rw [h]; exact fl_none
  · rw [h]; unfold az_tI1; split
    · exact k _ _
    · exact fl_refl
    · exact fl_refl
theorem fl_tO1 {r r' : lawQ} {K K' : Int32 → lawS → lawQ} {h0 : lawS → lawQ} (h : FL r r') (k : ∀ x S, FL (K x S) (K' x S)) : FL (az_tO1 r K h0) (az_tO1 r' K' h0) := by
  rcases h with h | h
  · rw [h]; exact fl_none
  · rw [h]; unfold az_tO1; split
    · exact k _ _
    · exact fl_refl
    · exact fl_refl
theorem fl_tI2 {r r' : lawQ} {K K' : Int32 → lawS → lawQ} {h0 h1 : lawS → lawQ} (h : FL r r') (k : ∀ x S, FL (K x S) (K' x S)) : FL (az_tI2 r K h0 h1) (az_tI2 r' K' h0 h1) := by
  rcases h with h | h
  · rw [h]; exact fl_none
  · rw [h]; unfold az_tI2; split
    · exact k _ _
    · exact fl_refl
    · exact fl_refl
theorem fl_tV1 {r r' : lawQ} {K K' : lawS → lawQ} {h0 : lawS → lawQ} (h : FL r r') (k : ∀ S, FL (K S) (K' S)) : FL (az_tV1 r K h0) (az_tV1 r' K' h0) := by
  rcases h with h | h
  · rw [h]; exact fl_none
  · rw [h]; unfold az_tV1; split
    · exact k _
    · exact fl_refl
    · exact fl_refl
/-- f comes to r: m for the depth, n for the loops -/
def EV {β : Type} (f : Nat → Nat → Option β) (r : Option β) : Prop := ∃ N, ∀ m n, N ≤ m → N ≤ n → f m n = r
section EVR
variable {β : Type}
theorem ev_c {r : Option β} : EV (fun _ _ => r) r := ⟨0, fun _ _ _ _ => rfl⟩
theorem ev_ite {c : Prop} [Decidable c] {f g : Nat → Nat → Option β} {r r' : Option β} (h1 : EV f r) (h2 : EV g r') : EV (fun m n => if c then f m n else g m n) (if c then r else r') := by
  obtain ⟨N, h1⟩ := h1
  obtain ⟨N', h2⟩ := h2
  refine ⟨N + N', fun m n hm hn => ?_⟩
  show (if c then f m n else g m n) = _
  rw [h1 m n (by omega) (by omega), h2 m n (by omega) (by omega)]
theorem ev_ck {i : Int32} {k : Nat} {f : Nat → Nat → Option β} {r : Option β} (h : EV f r) : EV (fun m n => az_ck i k (f m n)) (az_ck i k r) := by
  obtain ⟨N, h⟩ := h
  exact ⟨N, fun m n hm hn => congrArg (az_ck i k) (h m n hm hn)⟩
theorem ev_if {c : Prop} [Decidable c] {f : Nat → Nat → Option β} {r : Option β} (h : EV f r) : EV (fun m n => az_if c (f m n)) (az_if c r) := by
  obtain ⟨N, h⟩ := h
  exact ⟨N, fun m n hm hn => congrArg (fun z => az_if c z) (h m n hm hn)⟩
theorem ev_st {γ : Type} {v : γ} {K : Nat → Nat → γ → Option β} {K' : γ → Option β} (h : ∀ x, EV (fun m n => K m n x) (K' x)) : EV (fun m n => az_st v (K m n)) (az_st v K') := h v
theorem ev_uniq {f : Nat → Nat → Option β} {r r' : Option β} (h : EV f r) (h' : EV f r') : r = r' := by
  obtain ⟨N, h⟩ := h
  obtain ⟨N', h'⟩ := h'
  rw [← h (N + N') (N + N') (by omega) (by omega), h' (N + N') (N + N') (by omega) (by omega)]
theorem ev_shift {f : Nat → Nat → Option β} {r : Option β} (h : EV f r) : EV (fun m n => f m (n + 1)) r := by
  obtain ⟨N, h⟩ := h
  exact ⟨N, fun m n hm hn => h m (n + 1) hm (by omega)⟩
theorem ev_some {f : Nat → Nat → Option β} {x : β} (h : EV f (some x)) : ∃ n, f n n = some x := by
  obtain ⟨N, h⟩ := h
  exact ⟨N, h N N (Nat.le_refl _) (Nat.le_refl _)⟩
theorem ev_diag {f : Nat → Nat → Option β} {r : Option β} (h : EV f r) : EV (fun _ n => f n n) r := by
  obtain ⟨N, h⟩ := h
  exact ⟨N, fun m n hm hn => h n n hn hn⟩
/-- what grows comes to something -/
theorem ev_ex {f : Nat → Nat → Option β} (hm : ∀ m m' n n', m ≤ m' → n ≤ n' → FL (f m n) (f m' n')) : ∃ r, EV f r := by
  by_cases h : ∃ m n x, f m n = some x
  · obtain ⟨m, n, x, h⟩ := h
    refine ⟨some x, m + n, fun m' n' h1 h2 => ?_⟩
    rcases hm m m' n n' (by omega) (by omega) with e | e
    · rw [h] at e; cases e
    · rw [← e, h]
  · refine ⟨none, 0, fun m n _ _ => ?_⟩
    cases e : f m n with
    | none => rfl
    | some x => exact absurd ⟨m, n, x, e⟩ h
end EVR
noncomputable def az_lim {β : Type} (f : Nat → Nat → Option β) : Option β := by
  classical
  exact if h : ∃ r, EV f r then h.choose else none
theorem ev_lim {β : Type} {f : Nat → Nat → Option β} (hm : ∀ m m' n n', m ≤ m' → n ≤ n' → FL (f m n) (f m' n')) : EV f (az_lim f) := by
  have h := ev_ex hm
  unfold az_lim
  rw [dif_pos h]
  exact h.choose_spec
theorem ev_bI {α : Type} {f : Nat → Nat → Option (amO × α)} {r : Option (amO × α)} {K : Nat → Nat → Int32 → α → Option (amO × α)} {K' : Int32 → α → Option (amO × α)} (h : EV f r) (k : ∀ x S, EV (fun m n => K m n x S) (K' x S)) : EV (fun m n => az_bI (f m n) (K m n)) (az_bI r K') := by
  obtain ⟨N, h⟩ := h
  have k2 : EV (fun m n => az_bI r (K m n)) (az_bI r K') := by
    rcases r with _ | ⟨(_ | v) | x, S⟩
    · exact ev_c
    · first | exact k _ | exact ev_c
    · cases v <;> first | exact k _ _ | exact k0 _ | exact ev_c
    · exact ev_c
  obtain ⟨N', k2⟩ := k2
  exact ⟨N + N', fun m n hm hn => by show az_bI (f m n) (K m n) = _; rw [h m n (by omega) (by omega)]; exact k2 m n (by omega) (by omega)⟩
theorem ev_bJ {α : Type} {f : Nat → Nat → Option (amO × α)} {r : Option (amO × α)} {K : Nat → Nat → Int64 → α → Option (amO × α)} {K' : Int64 → α → Option (amO × α)} (h : EV f r) (k : ∀ x S, EV (fun m n => K m n x S) (K' x S)) : EV (fun m n => az_bJ (f m n) (K m n)) (az_bJ r K') := by
  obtain ⟨N, h⟩ := h
  have k2 : EV (fun m n => az_bJ r (K m n)) (az_bJ r K') := by
    rcases r with _ | ⟨(_ | v) | x, S⟩
    · exact ev_c
    · first | exact k _ | exact ev_c
    · cases v <;> first | exact k _ _ | exact k0 _ | exact ev_c
    · exact ev_c
  obtain ⟨N', k2⟩ := k2
  exact ⟨N + N', fun m n hm hn => by show az_bJ (f m n) (K m n) = _; rw [h m n (by omega) (by omega)]; exact k2 m n (by omega) (by omega)⟩
theorem ev_bV {α : Type} {f : Nat → Nat → Option (amO × α)} {r : Option (amO × α)} {K : Nat → Nat → α → Option (amO × α)} {K' : α → Option (amO × α)} (h : EV f r) (k : ∀ S, EV (fun m n => K m n S) (K' S)) : EV (fun m n => az_bV (f m n) (K m n)) (az_bV r K') := by
  obtain ⟨N, h⟩ := h
  have k2 : EV (fun m n => az_bV r (K m n)) (az_bV r K') := by
    rcases r with _ | ⟨(_ | v) | x, S⟩
    · exact ev_c
    · first | exact k _ | exact ev_c
    · cases v <;> first | exact k _ _ | exact k0 _ | exact ev_c
    · exact ev_c
  obtain ⟨N', k2⟩ := k2
  exact ⟨N + N', fun m n hm hn => by show az_bV (f m n) (K m n) = _; rw [h m n (by omega) (by omega)]; exact k2 m n (by omega) (by omega)⟩
theorem ev_bW {α : Type} {f : Nat → Nat → Option (amO × α)} {r : Option (amO × α)} {K : Nat → Nat → Nat → α → Option (amO × α)} {K' : Nat → α → Option (amO × α)} {K0 : Nat → Nat → α → Option (amO × α)} {K0' : α → Option (amO × α)} (h : EV f r) (k : ∀ x S, EV (fun m n => K m n x S) (K' x S)) (k0 : ∀ S, EV (fun m n => K0 m n S) (K0' S)) : EV (fun m n => az_bW (f m n) (K m n) (K0 m n)) (az_bW r K' K0') := by
  obtain ⟨N, h⟩ := h
  have k2 : EV (fun m n => az_bW r (K m n) (K0 m n)) (az_bW r K' K0') := by
    rcases r with _ | ⟨(_ | v) | x, S⟩
    · exact ev_c
    · first | exact k _ | exact ev_c
    · cases v <;> first | exact k _ _ | exact k0 _ | exact ev_c
    · exact ev_c
  obtain ⟨N', k2⟩ := k2
  exact ⟨N + N', fun m n hm hn => by show az_bW (f m n) (K m n) (K0 m n) = _; rw [h m n (by omega) (by omega)]; exact k2 m n (by omega) (by omega)⟩
theorem ev_tI1 {f : Nat → Nat → lawQ} {r : lawQ} {K : Nat → Nat → Int32 → lawS → lawQ} {K' : Int32 → lawS → lawQ} {h0 : lawS → lawQ} (h : EV f r) (k : ∀ x S, EV (fun m n => K m n x S) (K' x S)) : EV (fun m n => az_tI1 (f m n) (K m n) h0) (az_tI1 r K' h0) := by
  obtain ⟨N, h⟩ := h
  have k2 : EV (fun m n => az_tI1 r (K m n) h0) (az_tI1 r K' h0) := by
    rcases r with _ | ⟨(_ | v) | x, S⟩
    · exact ev_c
    · first | exact k _ | exact ev_c
    · cases v <;> first | exact k _ _ | exact k0 _ | exact ev_c
    · exact ev_c
  obtain ⟨N', k2⟩ := k2
  exact ⟨N + N', fun m n hm hn => by show az_tI1 (f m n) (K m n) h0 = _; rw [h m n (by omega) (by omega)]; exact k2 m n (by omega) (by omega)⟩
theorem ev_tO1 {f : Nat → Nat → lawQ} {r : lawQ} {K : Nat → Nat → Int32 → lawS → lawQ} {K' : Int32 → lawS → lawQ} {h0 : lawS → lawQ} (h : EV f r) (k : ∀ x S, EV (fun m n => K m n x S) (K' x S)) : EV (fun m n => az_tO1 (f m n) (K m n) h0) (az_tO1 r K' h0) := by
  obtain ⟨N, h⟩ := h
  have k2 : EV (fun m n => az_tO1 r (K m n) h0) (az_tO1 r K' h0) := by
    rcases r with _ | ⟨(_ | v) | x, S⟩
    · exact ev_c
    · first | exact k _ | exact ev_c
    · cases v <;> first | exact k _ _ | exact k0 _ | exact ev_c
    · exact ev_c
  obtain ⟨N', k2⟩ := k2
  exact ⟨N + N', fun m n hm hn => by show az_tO1 (f m n) (K m n) h0 = _; rw [h m n (by omega) (by omega)]; exact k2 m n (by omega) (by omega)⟩
theorem ev_tI2 {f : Nat → Nat → lawQ} {r : lawQ} {K : Nat → Nat → Int32 → lawS → lawQ} {K' : Int32 → lawS → lawQ} {h0 h1 : lawS → lawQ} (h : EV f r) (k : ∀ x S, EV (fun m n => K m n x S) (K' x S)) : EV (fun m n => az_tI2 (f m n) (K m n) h0 h1) (az_tI2 r K' h0 h1) := by
  obtain ⟨N, h⟩ := h
  have k2 : EV (fun m n => az_tI2 r (K m n) h0 h1) (az_tI2 r K' h0 h1) := by
    rcases r with _ | ⟨(_ | v) | x, S⟩
    · exact ev_c
    · first | exact k _ | exact ev_c
    · cases v <;> first | exact k _ _ | exact k0 _ | exact ev_c
    · exact ev_c
  obtain ⟨N', k2⟩ := k2
  exact ⟨N + N', fun m n hm hn => by show az_tI2 (f m n) (K m n) h0 h1 = _; rw [h m n (by omega) (by omega)]; exact k2 m n (by omega) (by omega)⟩
theorem ev_tV1 {f : Nat → Nat → lawQ} {r : lawQ} {K : Nat → Nat → lawS → lawQ} {K' : lawS → lawQ} {h0 : lawS → lawQ} (h : EV f r) (k : ∀ S, EV (fun m n => K m n S) (K' S)) : EV (fun m n => az_tV1 (f m n) (K m n) h0) (az_tV1 r K' h0) := by
  obtain ⟨N, h⟩ := h
  have k2 : EV (fun m n => az_tV1 r (K m n) h0) (az_tV1 r K' h0) := by
    rcases r with _ | ⟨(_ | v) | x, S⟩
    · exact ev_c
    · first | exact k _ | exact ev_c
    · cases v <;> first | exact k _ _ | exact k0 _ | exact ev_c
    · exact ev_c
  obtain ⟨N', k2⟩ := k2
  exact ⟨N + N', fun m n hm hn => by show az_tV1 (f m n) (K m n) h0 = _; rw [h m n (by omega) (by omega)]; exact k2 m n (by omega) (by omega)⟩
theorem ev_lfC {s : lawS} {f : Nat → Nat → amQ} {r : amQ} (h : EV f r) : EV (fun m n => lfC s (f m n)) (lfC s r) := by
  obtain ⟨N, h⟩ := h
  exact ⟨N, fun m n hm hn => congrArg (lfC s) (h m n hm hn)⟩
theorem ev_lfM {s : lawS} {f : Nat → Nat → amQ} {r : amQ} (h : EV f r) : EV (fun m n => lfM s (f m n)) (lfM s r) := by
  obtain ⟨N, h⟩ := h
  exact ⟨N, fun m n hm hn => congrArg (lfM s) (h m n hm hn)⟩
