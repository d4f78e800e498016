/-! states read and written; numbers -/
theorem sI_get (S : amS) (a k b j : Nat) (x : Int32) : (sI S a k x).1 b j = if b = a ∧ j = k then x else S.1 b j := by
  unfold sI az_up upd
  by_cases h : b = a
  · subst h
    by_cases h2 : j = k
    · simp [h2]
    · simp [h2]
  · simp [h]
theorem sI_row (S : amS) (a k b : Nat) (x : Int32) : (sI S a k x).1 b = if b = a then upd (S.1 a) k x else S.1 b := rfl
theorem sI_eq (S : amS) (a k : Nat) (x : Int32) : (sI S a k x).1 a k = x := by rw [sI_get, if_pos ⟨rfl, rfl⟩]
theorem sI_na (S : amS) {a k b j : Nat} {x : Int32} (h : b ≠ a) : (sI S a k x).1 b j = S.1 b j := by rw [sI_get, if_neg (fun h2 => h h2.1)]
theorem sI_nk (S : amS) {a k b j : Nat} {x : Int32} (h : j ≠ k) : (sI S a k x).1 b j = S.1 b j := by rw [sI_get, if_neg (fun h2 => h h2.2)]
theorem sI_2 (S : amS) (a k : Nat) (x : Int32) : (sI S a k x).2 = S.2 := rfl
theorem sJ_1 (S : amS) (a k : Nat) (x : Int64) : (sJ S a k x).1 = S.1 := rfl
theorem sJ_get (S : amS) (a k b j : Nat) (x : Int64) : (sJ S a k x).2 b j = if b = a ∧ j = k then x else S.2 b j := by
  unfold sJ az_up vp_updL
  by_cases h : b = a
  · subst h
    by_cases h2 : j = k
    · simp [h2]
    · simp [h2]
  · simp [h]
theorem sJ_eq (S : amS) (a k : Nat) (x : Int64) : (sJ S a k x).2 a k = x := by rw [sJ_get, if_pos ⟨rfl, rfl⟩]
theorem sJ_na (S : amS) {a k b j : Nat} {x : Int64} (h : b ≠ a) : (sJ S a k x).2 b j = S.2 b j := by rw [sJ_get, if_neg (fun h2 => h h2.1)]
theorem sJ_nk (S : amS) {a k b j : Nat} {x : Int64} (h : j ≠ k) : (sJ S a k x).2 b j = S.2 b j := by rw [sJ_get, if_neg (fun h2 => h h2.2)]
theorem sR_in (S : amS) (a n i : Nat) (x : Int32) (h : i < n) (hn : n < 2 ^ 31) : sR S a n (nI i) x = sI S a i x := by
  unfold sR
  rw [if_neg (nI_in h hn), nI_clamp (by omega)]
theorem sRJ_in (S : amS) (a n i : Nat) (x : Int64) (h : i < n) (hn : n < 2 ^ 31) : sRJ S a n (nI i) x = sJ S a i x := by
  unfold sRJ
  rw [if_neg (nI_in h hn), nI_clamp (by omega)]
theorem az_rg_in (n : Nat) (f : Nat → Int32) (i : Nat) (h : i < n) (hn : n < 2 ^ 31) : az_rg n f (nI i) = f i := by
  unfold az_rg
  rw [if_neg (nI_in h hn), nI_clamp (by omega)]
theorem az_rj_in (n : Nat) (f : Nat → Int64) (i : Nat) (h : i < n) (hn : n < 2 ^ 31) : az_rj n f (nI i) = f i := by
  unfold az_rj
  rw [if_neg (nI_in h hn), nI_clamp (by omega)]
theorem az_ck_in {β : Type} {n i : Nat} (h : i < n) (hn : n < 2 ^ 31) (R : Option β) : az_ck (nI i) n R = R := az_ckp h hn R
theorem lg_cmp_0 (x y : Int64) : lg_cmp x y = 0 ↔ x = y := by
  unfold lg_cmp
  by_cases h : x > y
  · rw [if_pos h]
    constructor
    · intro h2; exact absurd h2 (by decide)
    · intro h2; subst h2; exact absurd h (by simp)
  · rw [if_neg h]
    by_cases h2 : x = y
    · rw [if_pos h2]; exact ⟨fun _ => h2, fun _ => rfl⟩
    · rw [if_neg h2]; exact ⟨fun h3 => absurd h3 (by decide), fun h3 => absurd h3 h2⟩
section BND
variable {α : Type} {S : α}
theorem bI_i {x : Int32} {k : Int32 → α → Option (amO × α)} : az_bI (some (.inl (some (.int x)), S)) k = k x S := rfl
theorem bI_x {x : Nat} {k : Int32 → α → Option (amO × α)} : az_bI (some (.inr x, S)) k = some (.inr x, S) := rfl
theorem bJ_j {x : Int64} {k : Int64 → α → Option (amO × α)} : az_bJ (some (.inl (some (.long x)), S)) k = k x S := rfl
theorem bJ_x {x : Nat} {k : Int64 → α → Option (amO × α)} : az_bJ (some (.inr x, S)) k = some (.inr x, S) := rfl
theorem bV_v {k : α → Option (amO × α)} : az_bV (some (.inl none, S)) k = k S := rfl
theorem bV_x {x : Nat} {k : α → Option (amO × α)} : az_bV (some (.inr x, S)) k = some (.inr x, S) := rfl
theorem bW_r {x : Nat} {k : Nat → α → Option (amO × α)} {k0 : α → Option (amO × α)} : az_bW (some (.inl (some (.ref x)), S)) k k0 = k x S := rfl
theorem bW_n {k : Nat → α → Option (amO × α)} {k0 : α → Option (amO × α)} : az_bW (some (.inl (some .null), S)) k k0 = k0 S := rfl
theorem bW_x {x : Nat} {k : Nat → α → Option (amO × α)} {k0 : α → Option (amO × α)} : az_bW (some (.inr x, S)) k k0 = some (.inr x, S) := rfl
end BND
/-- a byte of a long, as the class and as the reference take it -/
def by_c (b : Int64) (i : Int32) : Int32 := (Int64.toInt32 (az_lushr b (8 * i))) &&& 255
def by_r (b : Int64) (i : Int32) : Int32 := (Int64.toInt32 (b >>> ((8 * i).toInt64 &&& 63))) &&& 255
theorem by_eq (b : Int64) : ∀ i, i < 8 → by_c b (nI i) = by_r b (nI i) := by
  intro i hi
  have h8 : i = 0 ∨ i = 1 ∨ i = 2 ∨ i = 3 ∨ i = 4 ∨ i = 5 ∨ i = 6 ∨ i = 7 := by omega
  have e : ∀ (k : Nat), k ≤ 56 → ((b.toUInt64 >>> UInt64.ofNat k).toInt64.toInt32 &&& 255 : Int32) = ((b >>> Int64.ofNat k).toInt32 &&& 255) := by
    intro k hk
    apply Int32.toBitVec_inj.mp
    apply BitVec.eq_of_getLsbD_eq
    intro j hj
    have hs : ∀ k, k < 57 → ((BitVec.ofNat 64 k).smod 64#64).toNat = k := by decide +kernel
    have hf : ∀ j, j < 32 → ¬ j < 8 → (255#32).getLsbD j = false := by decide +kernel
    simp
    by_cases h8 : j < 8
    · rw [hs k (by omega), Nat.mod_eq_of_lt (by omega)]
      congr 1
      rw [BitVec.getLsbD_signExtend, BitVec.getLsbD_signExtend, BitVec.getLsbD_ushiftRight, BitVec.getLsbD_sshiftRight]
      have h1 : j < 64 := by omega
      have h2 : k + j < 64 := by omega
      simp [h1, h2, hj]
    · rw [hf j hj h8]
      simp
  rcases h8 with rfl | rfl | rfl | rfl | rfl | rfl | rfl | rfl
  · exact e 0 (by decide)
  · exact e 8 (by decide)
  · exact e 16 (by decide)
  · exact e 24 (by decide)
  · exact e 32 (by decide)
  · exact e 40 (by decide)
  · exact e 48 (by decide)
  · exact e 56 (by decide)
theorem by_rng (b : Int64) (i : Int32) : ∃ k : Nat, k < 256 ∧ by_c b i = nI k := by
  obtain ⟨k, h1, h2⟩ := pk_andE (Int64.toInt32 (az_lushr b (8 * i))) (m := 255) 8 (by decide)
  exact ⟨k, h1, h2⟩
