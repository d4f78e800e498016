/-! values in one long -/
def vE (t b : Nat) : Int64 := Int64.ofNat (t * 2 ^ 32 + b)
theorem i64_nat {a b : Nat} (ha : a < 2 ^ 64) (hb : b < 2 ^ 64) : Int64.ofNat a = Int64.ofNat b ↔ a = b := by
  constructor
  · intro h
    have h1 : (Int64.ofNat a).toBitVec.toNat = (Int64.ofNat b).toBitVec.toNat := by rw [h]
    rw [Int64.toBitVec_ofNat', Int64.toBitVec_ofNat', BitVec.toNat_ofNat, BitVec.toNat_ofNat, Nat.mod_eq_of_lt ha, Nat.mod_eq_of_lt hb] at h1
    exact h1
  · intro h; rw [h]
theorem i64_ext {x : Int64} {n : Nat} (h : x.toBitVec.toNat = n) : x = Int64.ofNat n := by
  apply Int64.toBitVec_inj.mp
  apply BitVec.eq_of_toNat_eq
  rw [Int64.toBitVec_ofNat', BitVec.toNat_ofNat, h, Nat.mod_eq_of_lt (by rw [← h]; exact x.toBitVec.isLt)]
theorem i32_ext {x : Int32} {n : Nat} (h : x.toBitVec.toNat = n) : x = nI n := by
  apply Int32.toBitVec_inj.mp
  apply BitVec.eq_of_toNat_eq
  unfold nI
  rw [Int32.toBitVec_ofNat', BitVec.toNat_ofNat, h, Nat.mod_eq_of_lt (by rw [← h]; exact x.toBitVec.isLt)]
theorem vE_nat {t b : Nat} (ht : t < 2 ^ 31) (hb : b < 2 ^ 32) : (vE t b).toBitVec.toNat = t * 2 ^ 32 + b := by
  unfold vE
  rw [Int64.toBitVec_ofNat', BitVec.toNat_ofNat, Nat.mod_eq_of_lt (by omega)]
theorem vE_inj {t b t' b' : Nat} (ht : t < 2 ^ 31) (hb : b < 2 ^ 32) (ht' : t' < 2 ^ 31) (hb' : b' < 2 ^ 32) : vE t b = vE t' b' ↔ t = t' ∧ b = b' := by
  unfold vE
  rw [i64_nat (by omega) (by omega)]
  omega
theorem l2i_nat (x : Int64) : x.toInt32 = nI (x.toBitVec.toNat % 2 ^ 32) := by
  apply i32_ext
  simp
  rw [BitVec.signExtend_eq_setWidth_of_le _ (by decide), BitVec.toNat_setWidth]
theorem vE_body {t b : Nat} (ht : t < 2 ^ 31) (hb : b < 2 ^ 32) : (vE t b).toInt32 = nI b := by
  rw [l2i_nat, vE_nat ht hb]
  congr 1
  omega
theorem vE_tag {t b : Nat} (ht : t < 2 ^ 31) (hb : b < 2 ^ 32) : Int64.toInt32 (az_lushr (vE t b) 32) = nI t := by
  rw [l2i_nat]
  have h : (az_lushr (vE t b) 32).toBitVec.toNat = (t * 2 ^ 32 + b) / 2 ^ 32 := by
    rw [← vE_nat ht hb]
    unfold az_lushr
    simp [Nat.shiftRight_eq_div_pow]
  rw [h]
  congr 1
  omega
theorem vE_kind {t b : Nat} (ht : t < 2 ^ 31) (hb : b < 2 ^ 32) : Int64.toInt32 (vE t b >>> ((32 : Int32).toInt64 &&& 63)) = nI t := by
  rw [l2i_nat]
  have h : (vE t b >>> ((32 : Int32).toInt64 &&& 63)).toBitVec.toNat = (t * 2 ^ 32 + b) / 2 ^ 32 := by
    rw [← vE_nat ht hb]
    have hm : (vE t b).toBitVec.msb = false := by
      rw [BitVec.msb_eq_false_iff_two_mul_lt, vE_nat ht hb]
      omega
    simp
    rw [BitVec.toNat_sshiftRight_of_msb_false hm, Nat.shiftRight_eq_div_pow]
  rw [h]
  congr 1
  omega
theorem i2l_nat (x : Int32) : (x.toInt64 &&& 4294967295).toBitVec.toNat = x.toBitVec.toNat := by
  have h : x.toInt64.toBitVec.toNat % 2 ^ 32 = x.toBitVec.toNat := by
    rw [Int32.toBitVec_toInt64, BitVec.toNat_signExtend, BitVec.toNat_setWidth]
    have hlt := x.toBitVec.isLt
    rw [Nat.mod_eq_of_lt (show x.toBitVec.toNat < 2 ^ 64 by omega)]
    split
    · omega
    · omega
  rw [Int64.toBitVec_and, BitVec.toNat_and]
  rw [← h]
  exact Nat.and_two_pow_sub_one_eq_mod _ 32
theorem vE_int (x : Int32) : x.toInt64 &&& 4294967295 = vE 0 x.toBitVec.toNat := by
  rw [i64_ext (i2l_nat x)]
  unfold vE
  rw [Nat.zero_mul, Nat.zero_add]
theorem vE_shl {t : Nat} (ht : t < 2 ^ 31) : ((nI t).toInt64 <<< ((32 : Int32).toInt64 &&& 63)).toBitVec.toNat = t * 2 ^ 32 := by
  rw [nI_l ht]
  have e : ((32 : Int32).toInt64 &&& 63) = Int64.ofNat 32 := by decide
  rw [e]
  simp
  rw [show (lN t).toBitVec.toNat = t from ?_, Nat.shiftLeft_eq]
  · omega
  · unfold lN
    rw [Int64.toBitVec_ofNat', BitVec.toNat_ofNat, Nat.mod_eq_of_lt (by omega)]
theorem vE_of {t : Nat} (ht : t < 2 ^ 31) (x : Int32) : ((nI t).toInt64 <<< ((32 : Int32).toInt64 &&& 63)) ||| (x.toInt64 &&& 4294967295) = vE t x.toBitVec.toNat := by
  unfold vE
  apply i64_ext
  rw [Int64.toBitVec_or, BitVec.toNat_or, vE_shl ht, i2l_nat]
  have hlt := x.toBitVec.isLt
  rw [Nat.mul_comm, ← Nat.two_pow_add_eq_or_of_lt hlt]
theorem vE_made {t i : Nat} (ht : t < 2 ^ 31) (hi : i < 2 ^ 31) : ((nI t).toInt64 <<< ((32 : Int32).toInt64 &&& 63)) ||| (nI i).toInt64 = vE t i := by
  unfold vE
  apply i64_ext
  rw [Int64.toBitVec_or, BitVec.toNat_or, vE_shl ht, nI_l hi]
  rw [show (lN i).toBitVec.toNat = i from ?_]
  · rw [Nat.mul_comm, ← Nat.two_pow_add_eq_or_of_lt (by omega)]
  · unfold lN
    rw [Int64.toBitVec_ofNat', BitVec.toNat_ofNat, Nat.mod_eq_of_lt (by omega)]
theorem vE_nil : (4294967296 : Int64) = vE 1 0 := by decide
theorem vE_none : (21474836480 : Int64) = vE 5 0 := by decide
theorem vE_0 : (0 : Int64) = vE 0 0 := by decide
theorem vE_1 : (1 : Int64) = vE 0 1 := by decide
theorem vE_pos {t b : Nat} (ht : t < 2 ^ 31) (hb : b < 2 ^ 32) : ¬ lg_cmp (vE t b) 0 < 0 := by
  unfold lg_cmp
  by_cases h : vE t b > 0
  · rw [if_pos h]; decide
  · rw [if_neg h]
    by_cases h2 : vE t b = 0
    · rw [if_pos h2]; decide
    · exfalso
      have h3 : (vE t b).toInt = ((t * 2 ^ 32 + b : Nat) : Int) := by
        unfold vE
        rw [Int64.toInt_ofNat_of_lt (by omega)]
      rw [GT.gt, Int64.lt_iff_toInt_lt, h3] at h
      apply h2
      apply Int64.toInt_inj.mp
      rw [h3]
      have h4 : (0 : Int64).toInt = 0 := rfl
      rw [h4] at h ⊢
      omega
theorem nI_i32 (x : Int32) : nI x.toBitVec.toNat = x := (i32_ext rfl).symm
