/-! Rows: what no index can break -/
def az_rg (n : Nat) (f : Nat → Int32) (i : Int32) : Int32 := if i < 0 ∨ n ≤ i.toNatClampNeg then 0 else f i.toNatClampNeg
def az_rj (n : Nat) (f : Nat → Int64) (i : Int32) : Int64 := if i < 0 ∨ n ≤ i.toNatClampNeg then 0 else f i.toNatClampNeg
def sR (S : amS) (a n : Nat) (i x : Int32) : amS := if i < 0 ∨ n ≤ i.toNatClampNeg then S else sI S a i.toNatClampNeg x
def sRJ (S : amS) (a n : Nat) (i : Int32) (x : Int64) : amS := if i < 0 ∨ n ≤ i.toNatClampNeg then S else sJ S a i.toNatClampNeg x
theorem az_len {n : Nat} (hn : n < 2 ^ 31) {i : Int32} (h0 : ¬ i < 0) : Int32.ofNat n ≤ i ↔ n ≤ i.toNatClampNeg := by
  have h1 : 0 ≤ i.toInt := by
    have := Int32.not_lt.mp h0
    simpa [Int32.le_iff_toInt_le] using this
  have h2 : (Int32.ofNat n).toInt = n := by
    rw [Int32.toInt_ofNat_of_lt (by omega)]
  rw [Int32.le_iff_toInt_le, h2]
  have h3 : (i.toNatClampNeg : Int) = i.toInt := by
    show ((i.toInt).toNat : Int) = _
    omega
  omega
theorem aw_nameK {α : Type} {X : amX} {d : Nat} {M : amM} {wd : α → Nat → amW} {e pc : Nat} {lv : List (Nat × Value)} {st : List Value} {S : α} {v : Int32} {K : Int32 → Option (amO × α)} {F : Int32 → List Value} (hF : F v = st) (k : ∀ x, AW X d M wd e pc lv (F x) S (K x)) : AW X d M wd e pc lv st S (az_st v K) := by
  rw [← hF]; exact k v
section ROWSF
variable {X : amX} {α : Type} {d a n : Nat} {wd : α → Nat → amW} {S : α}
theorem cw_94 {f : Nat → Int32} {i : Int32} (hd : 1 ≤ d) (hn : n < 2 ^ 31) (ha : ∀ e, am_ai X (wd S e) a = some (n, f)) (hl : ∀ e, am_len X (wd S e) a = some n) : CW X d 94 [.ref a, .int i] wd S (some (.inl (some (.int (az_rg n f i))), S)) := cw_up hd (fun d' h => by
  subst h
  refine cw_of (M := am_m94) rfl (by decide) (Nat.le_of_ble_eq_true rfl) rfl (fun e => ?_)
  have hr : (some (.inl (some (.int (az_rg n f i))), S) : Option (amO × α)) = (if i < 0 then some (.inl (some (.int 0)), S) else if Int32.ofNat n ≤ i then some (.inl (some (.int 0)), S) else az_ck i n (some (.inl (some (.int (f i.toNatClampNeg))), S))) := by
    unfold az_rg az_ck
    by_cases h : i < 0
    · rw [if_pos h, if_pos (Or.inl h)]
    · rw [if_neg h]
      by_cases h2 : n ≤ i.toNatClampNeg
      · rw [if_pos (Or.inr h2), if_pos ((az_len hn h).mpr h2)]
      · rw [if_neg (fun h3 => h3.elim h h2), if_neg (fun h3 => h2 ((az_len hn h).mp h3)), if_neg (fun h3 => h3.elim h h2)]
  rw [hr]
  refine aw_iload (ix := 0) (i := 1) rfl rfl ?_
  refine aw_if_lt (ix := 0) (t := 16) rfl ?_ ?_
  · refine aw_ic (ix := 0) (n := 0) 0 rfl (by decide) ?_
    exact aw_rI (ix := 0) rfl rfl
  refine aw_iload (ix := 0) (i := 1) rfl rfl ?_
  refine aw_aload (ix := 0) (i := 0) rfl rfl ?_
  refine aw_alen (ix := 0) _ rfl (hl e) rfl ?_
  refine aw_icmp_ge (ix := 0) (t := 16) rfl ?_ ?_
  · refine aw_ic (ix := 0) (n := 0) 0 rfl (by decide) ?_
    exact aw_rI (ix := 0) rfl rfl
  refine aw_aload (ix := 0) (i := 0) rfl rfl ?_
  refine aw_iload (ix := 0) (i := 1) rfl rfl ?_
  refine aw_iald (ix := 0) rfl (ha e) ?_
  refine aw_goto (ix := 0) (t := 17) rfl ?_
  exact aw_rI (ix := 0) rfl rfl)
theorem cw_96 {f : Nat → Int64} {i : Int32} (hd : 1 ≤ d) (hn : n < 2 ^ 31) (ha : ∀ e, (wd S e).1[a]? = some (.inr (.inl (n, f)))) (hl : ∀ e, am_len X (wd S e) a = some n) : CW X d 96 [.ref a, .int i] wd S (some (.inl (some (.long (az_rj n f i))), S)) := cw_up hd (fun d' h => by
  subst h
  refine cw_of (M := am_m96) rfl (by decide) (Nat.le_of_ble_eq_true rfl) rfl (fun e => ?_)
  have hr : (some (.inl (some (.long (az_rj n f i))), S) : Option (amO × α)) = (if i < 0 then some (.inl (some (.long 0)), S) else if Int32.ofNat n ≤ i then some (.inl (some (.long 0)), S) else az_ck i n (some (.inl (some (.long (f i.toNatClampNeg))), S))) := by
    unfold az_rj az_ck
    by_cases h : i < 0
    · rw [if_pos h, if_pos (Or.inl h)]
    · rw [if_neg h]
      by_cases h2 : n ≤ i.toNatClampNeg
      · rw [if_pos (Or.inr h2), if_pos ((az_len hn h).mpr h2)]
      · rw [if_neg (fun h3 => h3.elim h h2), if_neg (fun h3 => h2 ((az_len hn h).mp h3)), if_neg (fun h3 => h3.elim h h2)]
  rw [hr]
  refine aw_iload (ix := 0) (i := 1) rfl rfl ?_
  refine aw_if_lt (ix := 0) (t := 16) rfl ?_ ?_
  · refine aw_lc (ix := 0) (n := 0) 0 rfl (by decide) ?_
    exact aw_rJ (ix := 0) rfl rfl
  refine aw_iload (ix := 0) (i := 1) rfl rfl ?_
  refine aw_aload (ix := 0) (i := 0) rfl rfl ?_
  refine aw_alen (ix := 0) _ rfl (hl e) rfl ?_
  refine aw_icmp_ge (ix := 0) (t := 16) rfl ?_ ?_
  · refine aw_lc (ix := 0) (n := 0) 0 rfl (by decide) ?_
    exact aw_rJ (ix := 0) rfl rfl
  refine aw_aload (ix := 0) (i := 0) rfl rfl ?_
  refine aw_iload (ix := 0) (i := 1) rfl rfl ?_
  refine aw_lald (ix := 0) rfl (ha e) ?_
  refine aw_goto (ix := 0) (t := 17) rfl ?_
  exact aw_rJ (ix := 0) rfl rfl)
end ROWSF
section ROWSG
variable {X : amX} {d a n : Nat} {wd : amS → Nat → amW} {S : amS}
theorem cw_95 {f : Nat → Int32} {i x : Int32} (hd : 1 ≤ d) (hn : n < 2 ^ 31) (ha : ∀ e, (wd S e).1[a]? = some (.inl (0, n, f))) (hl : ∀ e, am_len X (wd S e) a = some n) (hs : ∀ e k x, ((wd S e).1.set a (.inl (0, n, upd f k x)), (wd S e).2) = wd (sI S a k x) e) : CW X d 95 [.ref a, .int i, .int x] wd S (some (.inl none, sR S a n i x)) := cw_up hd (fun d' h => by
  subst h
  refine cw_of (M := am_m95) rfl (by decide) (Nat.le_of_ble_eq_true rfl) rfl (fun e => ?_)
  have hr : (some (.inl none, sR S a n i x) : amQ) = (if i < 0 then some (.inl none, S) else if Int32.ofNat n ≤ i then some (.inl none, S) else az_ck i n (az_st (sI S a i.toNatClampNeg x) fun S1 => some (.inl none, S1))) := by
    unfold sR az_ck az_st
    by_cases h : i < 0
    · rw [if_pos h, if_pos (Or.inl h)]
    · rw [if_neg h]
      by_cases h2 : n ≤ i.toNatClampNeg
      · rw [if_pos (Or.inr h2), if_pos ((az_len hn h).mpr h2)]
      · rw [if_neg (fun h3 => h3.elim h h2), if_neg (fun h3 => h2 ((az_len hn h).mp h3)), if_neg (fun h3 => h3.elim h h2)]
  rw [hr]
  refine aw_iload (ix := 0) (i := 1) rfl rfl ?_
  refine aw_if_lt (ix := 0) (t := 14) rfl ?_ ?_
  · exact aw_rV (ix := 0) rfl rfl
  refine aw_iload (ix := 0) (i := 1) rfl rfl ?_
  refine aw_aload (ix := 0) (i := 0) rfl rfl ?_
  refine aw_alen (ix := 0) _ rfl (hl e) rfl ?_
  refine aw_icmp_ge (ix := 0) (t := 14) rfl ?_ ?_
  · exact aw_rV (ix := 0) rfl rfl
  refine aw_aload (ix := 0) (i := 0) rfl rfl ?_
  refine aw_iload (ix := 0) (i := 1) rfl rfl ?_
  refine aw_iload (ix := 0) (i := 2) rfl rfl ?_
  refine aw_iast (ix := 0) rfl (ha e) (hs e _ _) (fun S1 => ?_)
  exact aw_rV (ix := 0) rfl rfl)
theorem cw_97 {f : Nat → Int64} {i : Int32} {x : Int64} (hd : 1 ≤ d) (hn : n < 2 ^ 31) (ha : ∀ e, (wd S e).1[a]? = some (.inr (.inl (n, f)))) (hl : ∀ e, am_len X (wd S e) a = some n) (hs : ∀ e k x, ((wd S e).1.set a (.inr (.inl (n, vp_updL f k x))), (wd S e).2) = wd (sJ S a k x) e) : CW X d 97 [.ref a, .int i, .long x] wd S (some (.inl none, sRJ S a n i x)) := cw_up hd (fun d' h => by
  subst h
  refine cw_of (M := am_m97) rfl (by decide) (Nat.le_of_ble_eq_true rfl) rfl (fun e => ?_)
  have hr : (some (.inl none, sRJ S a n i x) : amQ) = (if i < 0 then some (.inl none, S) else if Int32.ofNat n ≤ i then some (.inl none, S) else az_ck i n (az_st (sJ S a i.toNatClampNeg x) fun S1 => some (.inl none, S1))) := by
    unfold sRJ az_ck az_st
    by_cases h : i < 0
    · rw [if_pos h, if_pos (Or.inl h)]
    · rw [if_neg h]
      by_cases h2 : n ≤ i.toNatClampNeg
      · rw [if_pos (Or.inr h2), if_pos ((az_len hn h).mpr h2)]
      · rw [if_neg (fun h3 => h3.elim h h2), if_neg (fun h3 => h2 ((az_len hn h).mp h3)), if_neg (fun h3 => h3.elim h h2)]
  rw [hr]
  refine aw_iload (ix := 0) (i := 1) rfl rfl ?_
  refine aw_if_lt (ix := 0) (t := 14) rfl ?_ ?_
  · exact aw_rV (ix := 0) rfl rfl
  refine aw_iload (ix := 0) (i := 1) rfl rfl ?_
  refine aw_aload (ix := 0) (i := 0) rfl rfl ?_
  refine aw_alen (ix := 0) _ rfl (hl e) rfl ?_
  refine aw_icmp_ge (ix := 0) (t := 14) rfl ?_ ?_
  · exact aw_rV (ix := 0) rfl rfl
  refine aw_aload (ix := 0) (i := 0) rfl rfl ?_
  refine aw_iload (ix := 0) (i := 1) rfl rfl ?_
  refine aw_lload (ix := 0) (i := 2) rfl rfl ?_
  refine aw_last (ix := 0) rfl (ha e) (hs e _ _) (fun S1 => ?_)
  exact aw_rV (ix := 0) rfl rfl)
end ROWSG
/-! constants -/
theorem ic_m1 : Int32.ofInt (-1) = (-1) := by decide
theorem ic_0 : Int32.ofInt 0 = 0 := by decide
theorem ic_1 : Int32.ofInt 1 = 1 := by decide
theorem ic_2 : Int32.ofInt 2 = 2 := by decide
theorem ic_3 : Int32.ofInt 3 = 3 := by decide
theorem ic_4 : Int32.ofInt 4 = 4 := by decide
theorem ic_5 : Int32.ofInt 5 = 5 := by decide
theorem ic_6 : Int32.ofInt 6 = 6 := by decide
theorem ic_7 : Int32.ofInt 7 = 7 := by decide
theorem ic_8 : Int32.ofInt 8 = 8 := by decide
theorem ic_9 : Int32.ofInt 9 = 9 := by decide
theorem ic_10 : Int32.ofInt 10 = 10 := by decide
theorem ic_11 : Int32.ofInt 11 = 11 := by decide
theorem ic_12 : Int32.ofInt 12 = 12 := by decide
theorem ic_13 : Int32.ofInt 13 = 13 := by decide
theorem ic_14 : Int32.ofInt 14 = 14 := by decide
theorem ic_15 : Int32.ofInt 15 = 15 := by decide
theorem ic_16 : Int32.ofInt 16 = 16 := by decide
theorem ic_17 : Int32.ofInt 17 = 17 := by decide
theorem ic_20 : Int32.ofInt 20 = 20 := by decide
theorem ic_22 : Int32.ofInt 22 = 22 := by decide
theorem ic_23 : Int32.ofInt 23 = 23 := by decide
theorem ic_24 : Int32.ofInt 24 = 24 := by decide
theorem ic_26 : Int32.ofInt 26 = 26 := by decide
theorem ic_30 : Int32.ofInt 30 = 30 := by decide
theorem ic_32 : Int32.ofInt 32 = 32 := by decide
theorem ic_33 : Int32.ofInt 33 = 33 := by decide
theorem ic_40 : Int32.ofInt 40 = 40 := by decide
theorem ic_41 : Int32.ofInt 41 = 41 := by decide
theorem ic_42 : Int32.ofInt 42 = 42 := by decide
theorem ic_43 : Int32.ofInt 43 = 43 := by decide
theorem ic_45 : Int32.ofInt 45 = 45 := by decide
theorem ic_48 : Int32.ofInt 48 = 48 := by decide
theorem ic_57 : Int32.ofInt 57 = 57 := by decide
theorem ic_60 : Int32.ofInt 60 = 60 := by decide
theorem ic_61 : Int32.ofInt 61 = 61 := by decide
theorem ic_63 : Int32.ofInt 63 = 63 := by decide
theorem ic_97 : Int32.ofInt 97 = 97 := by decide
theorem ic_98 : Int32.ofInt 98 = 98 := by decide
theorem ic_99 : Int32.ofInt 99 = 99 := by decide
theorem ic_100 : Int32.ofInt 100 = 100 := by decide
theorem ic_101 : Int32.ofInt 101 = 101 := by decide
theorem ic_102 : Int32.ofInt 102 = 102 := by decide
theorem ic_103 : Int32.ofInt 103 = 103 := by decide
theorem ic_105 : Int32.ofInt 105 = 105 := by decide
theorem ic_108 : Int32.ofInt 108 = 108 := by decide
theorem ic_109 : Int32.ofInt 109 = 109 := by decide
theorem ic_110 : Int32.ofInt 110 = 110 := by decide
theorem ic_111 : Int32.ofInt 111 = 111 := by decide
theorem ic_112 : Int32.ofInt 112 = 112 := by decide
theorem ic_113 : Int32.ofInt 113 = 113 := by decide
theorem ic_114 : Int32.ofInt 114 = 114 := by decide
theorem ic_115 : Int32.ofInt 115 = 115 := by decide
theorem ic_116 : Int32.ofInt 116 = 116 := by decide
theorem ic_117 : Int32.ofInt 117 = 117 := by decide
theorem ic_122 : Int32.ofInt 122 = 122 := by decide
theorem ic_200 : Int32.ofInt 200 = 200 := by decide
theorem ic_240 : Int32.ofInt 240 = 240 := by decide
theorem ic_250 : Int32.ofInt 250 = 250 := by decide
theorem ic_255 : Int32.ofInt 255 = 255 := by decide
theorem ic_1000 : Int32.ofInt 1000 = 1000 := by decide
theorem ic_2000 : Int32.ofInt 2000 = 2000 := by decide
theorem ic_119999 : Int32.ofInt 119999 = 119999 := by decide
theorem ic_120000 : Int32.ofInt 120000 = 120000 := by decide
theorem ic_1000000 : Int32.ofInt 1000000 = 1000000 := by decide
