/-! 127: ListDeskModel.thrown()I -/
theorem at_127_0 : am_at am_m127 0 = some (.aload 0, 1, 0) := rfl
theorem at_127_1 : am_at am_m127 1 = some (.getfield 900, 3, 113) := rfl
theorem at_127_4 : am_at am_m127 4 = some (.ireturn, 1, 0) := rfl
def g_127 (S : amS) : amQ := some (.inl (some (.int (S.1 34 0))), S)
theorem t_127 {X : amX} {d e : Nat} {S0 : amS} {u : Nat → Int64} (hd : 0 ≤ d)  (S : amS) : AW X d am_m127 (wm S0 u) e 0 [(0, .ref 34)] [] S (g_127 S) := by
  unfold g_127
  refine aw_aload at_127_0 rfl ?_
  refine aw_getf at_127_1 gf_900 ?_
  exact aw_rI at_127_4 rfl
theorem c_127 {X : amX} {d : Nat} {S0 : amS} {u : Nat → Int64} (hd : 1 ≤ d) (S : amS) : CW X d 127 [.ref 34] (wm S0 u) S (g_127 S) := cw_up (by omega) (fun d' h => by
  subst h
  exact cw_of rfl (by decide) (Nat.le_of_ble_eq_true rfl) rfl (fun e => t_127 (by omega) S))
/-! 128: ListDeskModel.throwing(ZZ)Z -/
theorem at_128_0 : am_at am_m128 0 = some (.aload 0, 1, 0) := rfl
theorem at_128_1 : am_at am_m128 1 = some (.iload 1, 1, 0) := rfl
theorem at_128_2 : am_at am_m128 2 = some (.ifCond .eq 9, 3, 0) := rfl
theorem at_128_5 : am_at am_m128 5 = some (.iconst 1, 1, 0) := rfl
theorem at_128_6 : am_at am_m128 6 = some (.goto 18, 3, 0) := rfl
theorem at_128_9 : am_at am_m128 9 = some (.iload 2, 1, 0) := rfl
theorem at_128_10 : am_at am_m128 10 = some (.ifCond .eq 17, 3, 0) := rfl
theorem at_128_13 : am_at am_m128 13 = some (.iconst 2, 1, 0) := rfl
theorem at_128_14 : am_at am_m128 14 = some (.goto 18, 3, 0) := rfl
theorem at_128_17 : am_at am_m128 17 = some (.iconst 0, 1, 0) := rfl
theorem at_128_18 : am_at am_m128 18 = some (.putfield 900, 3, 113) := rfl
theorem at_128_21 : am_at am_m128 21 = some (.aload 0, 1, 0) := rfl
theorem at_128_22 : am_at am_m128 22 = some (.getfield 900, 3, 113) := rfl
theorem at_128_25 : am_at am_m128 25 = some (.ifCond .le 32, 3, 0) := rfl
theorem at_128_28 : am_at am_m128 28 = some (.iconst 1, 1, 0) := rfl
theorem at_128_29 : am_at am_m128 29 = some (.goto 33, 3, 0) := rfl
theorem at_128_32 : am_at am_m128 32 = some (.iconst 0, 1, 0) := rfl
theorem at_128_33 : am_at am_m128 33 = some (.ireturn, 1, 0) := rfl
def g_128_18 (s1 : Int32) (S : amS) : amQ := az_st (sI S 34 0 s1) fun S1 => if (S1.1 34 0) ≤ 0 then some (.inl (some (.int 0)), S1) else some (.inl (some (.int 1)), S1)
theorem t_128_18 {X : amX} {d e : Nat} {S0 : amS} {u : Nat → Int64} (hd : 0 ≤ d)  (s1 : Int32) (S : amS) : AW X d am_m128 (wm S0 u) e 18 [(0, .ref 34)] [.int s1, .ref 34] S (g_128_18 s1 S) := by
  unfold g_128_18
  refine aw_putf at_128_18 (pf_900 _) (fun S1 => ?_)
  refine aw_aload at_128_21 rfl ?_
  refine aw_getf at_128_22 gf_900 ?_
  refine aw_if_le at_128_25 ?_ ?_
  · refine aw_ic 0 at_128_32 ic_0 ?_
    exact aw_rZ at_128_33 rfl (Or.inl rfl)
  · refine aw_ic 1 at_128_28 ic_1 ?_
    refine aw_goto at_128_29 ?_
    exact aw_rZ at_128_33 rfl (Or.inr rfl)
def g_128 (l1 : Int32) (l2 : Int32) (S : amS) : amQ := if l1 = 0 then if l2 = 0 then g_128_18 0 S else g_128_18 2 S else g_128_18 1 S
theorem t_128 {X : amX} {d e : Nat} {S0 : amS} {u : Nat → Int64} (hd : 0 ≤ d)  (l1 : Int32) (l2 : Int32) (S : amS) : AW X d am_m128 (wm S0 u) e 0 [(0, .ref 34), (1, .int l1), (2, .int l2)] [] S (g_128 l1 l2 S) := by
  unfold g_128
  refine aw_aload at_128_0 rfl ?_
  refine aw_iload at_128_1 rfl ?_
  refine aw_if_eq at_128_2 ?_ ?_
  · refine aw_iload at_128_9 rfl ?_
    refine aw_if_eq at_128_10 ?_ ?_
    · refine aw_ic 0 at_128_17 ic_0 ?_
      exact aw_sub (al_cons rfl al_nil) (t_128_18 (by omega) 0 S)
    · refine aw_ic 2 at_128_13 ic_2 ?_
      refine aw_goto at_128_14 ?_
      exact aw_sub (al_cons rfl al_nil) (t_128_18 (by omega) 2 S)
  · refine aw_ic 1 at_128_5 ic_1 ?_
    refine aw_goto at_128_6 ?_
    exact aw_sub (al_cons rfl al_nil) (t_128_18 (by omega) 1 S)
theorem c_128 {X : amX} {d : Nat} {S0 : amS} {u : Nat → Int64} (hd : 1 ≤ d) (l1 : Int32) (l2 : Int32) (S : amS) : CW X d 128 [.ref 34, .int l1, .int l2] (wm S0 u) S (g_128 l1 l2 S) := cw_up (by omega) (fun d' h => by
  subst h
  exact cw_of rfl (by decide) (Nat.le_of_ble_eq_true rfl) rfl (fun e => t_128 (by omega) l1 l2 S))
/-! 129: ListDeskModel.in(III)Z -/
theorem at_129_0 : am_at am_m129 0 = some (.iload 0, 1, 0) := rfl
theorem at_129_1 : am_at am_m129 1 = some (.iload 1, 1, 0) := rfl
theorem at_129_2 : am_at am_m129 2 = some (.if_icmp .lt 14, 3, 0) := rfl
theorem at_129_5 : am_at am_m129 5 = some (.iload 0, 1, 0) := rfl
theorem at_129_6 : am_at am_m129 6 = some (.iload 2, 1, 0) := rfl
theorem at_129_7 : am_at am_m129 7 = some (.if_icmp .gt 14, 3, 0) := rfl
theorem at_129_10 : am_at am_m129 10 = some (.iconst 1, 1, 0) := rfl
theorem at_129_11 : am_at am_m129 11 = some (.goto 15, 3, 0) := rfl
theorem at_129_14 : am_at am_m129 14 = some (.iconst 0, 1, 0) := rfl
theorem at_129_15 : am_at am_m129 15 = some (.ireturn, 1, 0) := rfl
def g_129 (l0 : Int32) (l1 : Int32) (l2 : Int32) (S : amS) : amQ := if l0 < l1 then some (.inl (some (.int 0)), S) else if l2 < l0 then some (.inl (some (.int 0)), S) else some (.inl (some (.int 1)), S)
theorem t_129 {X : amX} {d e : Nat} {S0 : amS} {u : Nat → Int64} (hd : 0 ≤ d)  (l0 : Int32) (l1 : Int32) (l2 : Int32) (S : amS) : AW X d am_m129 (wm S0 u) e 0 [(0, .int l0), (1, .int l1), (2, .int l2)] [] S (g_129 l0 l1 l2 S) := by
  unfold g_129
  refine aw_iload at_129_0 rfl ?_
  refine aw_iload at_129_1 rfl ?_
  refine aw_icmp_lt at_129_2 ?_ ?_
  · refine aw_ic 0 at_129_14 ic_0 ?_
    exact aw_rZ at_129_15 rfl (Or.inl rfl)
  · refine aw_iload at_129_5 rfl ?_
    refine aw_iload at_129_6 rfl ?_
    refine aw_icmp_gt at_129_7 ?_ ?_
    · refine aw_ic 0 at_129_14 ic_0 ?_
      exact aw_rZ at_129_15 rfl (Or.inl rfl)
    · refine aw_ic 1 at_129_10 ic_1 ?_
      refine aw_goto at_129_11 ?_
      exact aw_rZ at_129_15 rfl (Or.inr rfl)
theorem c_129 {X : amX} {d : Nat} {S0 : amS} {u : Nat → Int64} (hd : 1 ≤ d) (l0 : Int32) (l1 : Int32) (l2 : Int32) (S : amS) : CW X d 129 [.int l0, .int l1, .int l2] (wm S0 u) S (g_129 l0 l1 l2 S) := cw_up (by omega) (fun d' h => by
  subst h
  exact cw_of rfl (by decide) (Nat.le_of_ble_eq_true rfl) rfl (fun e => t_129 (by omega) l0 l1 l2 S))
/-! 130: ListDeskModel.feed(JI)I -/
theorem at_130_0 : am_at am_m130 0 = some (.iload 3, 1, 0) := rfl
theorem at_130_1 : am_at am_m130 1 = some (.iconst 1, 1, 0) := rfl
theorem at_130_2 : am_at am_m130 2 = some (.iconst 8, 2, 1) := rfl
theorem at_130_4 : am_at am_m130 4 = some (.invokestatic 129, 3, 116) := rfl
theorem at_130_7 : am_at am_m130 7 = some (.ifCond .ne 14, 3, 0) := rfl
theorem at_130_10 : am_at am_m130 10 = some (.iconst 1, 1, 0) := rfl
theorem at_130_11 : am_at am_m130 11 = some (.goto 15, 3, 0) := rfl
theorem at_130_14 : am_at am_m130 14 = some (.iconst 0, 1, 0) := rfl
theorem at_130_15 : am_at am_m130 15 = some (.istore 4, 2, 0) := rfl
theorem at_130_17 : am_at am_m130 17 = some (.aload 0, 1, 0) := rfl
theorem at_130_18 : am_at am_m130 18 = some (.iload 4, 2, 0) := rfl
theorem at_130_20 : am_at am_m130 20 = some (.iload 4, 2, 0) := rfl
theorem at_130_22 : am_at am_m130 22 = some (.ifCond .ne 41, 3, 0) := rfl
theorem at_130_25 : am_at am_m130 25 = some (.aload 0, 1, 0) := rfl
theorem at_130_26 : am_at am_m130 26 = some (.getfield 902, 3, 120) := rfl
theorem at_130_29 : am_at am_m130 29 = some (.iload 3, 1, 0) := rfl
theorem at_130_30 : am_at am_m130 30 = some (.iadd, 1, 0) := rfl
theorem at_130_31 : am_at am_m130 31 = some (.iconst 250, 3, 2) := rfl
theorem at_130_34 : am_at am_m130 34 = some (.if_icmp .le 41, 3, 0) := rfl
theorem at_130_37 : am_at am_m130 37 = some (.iconst 1, 1, 0) := rfl
theorem at_130_38 : am_at am_m130 38 = some (.goto 42, 3, 0) := rfl
theorem at_130_41 : am_at am_m130 41 = some (.iconst 0, 1, 0) := rfl
theorem at_130_42 : am_at am_m130 42 = some (.invokevirtual 128, 3, 123) := rfl
theorem at_130_45 : am_at am_m130 45 = some (.ifCond .eq 50, 3, 0) := rfl
theorem at_130_48 : am_at am_m130 48 = some (.iconst 0, 1, 0) := rfl
theorem at_130_49 : am_at am_m130 49 = some (.ireturn, 1, 0) := rfl
theorem at_130_50 : am_at am_m130 50 = some (.iload 3, 1, 0) := rfl
theorem at_130_51 : am_at am_m130 51 = some (.iconst 1, 1, 0) := rfl
theorem at_130_52 : am_at am_m130 52 = some (.isub, 1, 0) := rfl
theorem at_130_53 : am_at am_m130 53 = some (.istore 5, 2, 0) := rfl
theorem at_130_55 : am_at am_m130 55 = some (.iload 5, 2, 0) := rfl
theorem at_130_57 : am_at am_m130 57 = some (.ifCond .lt 97, 3, 0) := rfl
theorem at_130_60 : am_at am_m130 60 = some (.aload 0, 1, 0) := rfl
theorem at_130_61 : am_at am_m130 61 = some (.getfield 901, 3, 7) := rfl
theorem at_130_64 : am_at am_m130 64 = some (.aload 0, 1, 0) := rfl
theorem at_130_65 : am_at am_m130 65 = some (.getfield 902, 3, 120) := rfl
theorem at_130_68 : am_at am_m130 68 = some (.lload 1, 1, 0) := rfl
theorem at_130_69 : am_at am_m130 69 = some (.iconst 8, 2, 1) := rfl
theorem at_130_71 : am_at am_m130 71 = some (.iload 5, 2, 0) := rfl
theorem at_130_73 : am_at am_m130 73 = some (.imul, 1, 0) := rfl
theorem at_130_74 : am_at am_m130 74 = some (.lshr, 1, 0) := rfl
theorem at_130_75 : am_at am_m130 75 = some (.l2i, 1, 0) := rfl
theorem at_130_76 : am_at am_m130 76 = some (.iconst 255, 3, 2) := rfl
theorem at_130_79 : am_at am_m130 79 = some (.iand, 1, 0) := rfl
theorem at_130_80 : am_at am_m130 80 = some (.iastore, 1, 0) := rfl
theorem at_130_81 : am_at am_m130 81 = some (.aload 0, 1, 0) := rfl
theorem at_130_82 : am_at am_m130 82 = some (.dup, 1, 0) := rfl
theorem at_130_83 : am_at am_m130 83 = some (.getfield 902, 3, 120) := rfl
theorem at_130_86 : am_at am_m130 86 = some (.iconst 1, 1, 0) := rfl
theorem at_130_87 : am_at am_m130 87 = some (.iadd, 1, 0) := rfl
theorem at_130_88 : am_at am_m130 88 = some (.putfield 902, 3, 120) := rfl
theorem at_130_91 : am_at am_m130 91 = some (.iinc 5 (-1), 3, 0) := rfl
theorem at_130_94 : am_at am_m130 94 = some (.goto 55, 3, 0) := rfl
theorem at_130_97 : am_at am_m130 97 = some (.aload 0, 1, 0) := rfl
theorem at_130_98 : am_at am_m130 98 = some (.getfield 902, 3, 120) := rfl
theorem at_130_101 : am_at am_m130 101 = some (.ireturn, 1, 0) := rfl
def h_130_55 (n : Nat) (H55 : Int64 → Int32 → amS → amQ) (l1 : Int64) (l5 : Int32) (S : amS) : amQ := if l5 < 0 then some (.inl (some (.int (S.1 34 2))), S) else az_st (S.1 34 2) fun x2 => az_ck x2 250 (az_st (sI S 35 x2.toNatClampNeg ((Int64.toInt32 (l1 >>> ((8 * l5).toInt64 &&& 63))) &&& 255)) fun S3 => az_st (sI S3 34 2 ((S3.1 34 2) + 1)) fun S4 => H55 l1 (l5 + (-1)) S4)
def g_130_55 : Nat → Int64 → Int32 → amS → amQ
  | 0 => fun _ _ _ => none
  | n + 1 => h_130_55 n (g_130_55 n)
theorem th_130_55 {X : amX} {d e : Nat} {S0 : amS} {u : Nat → Int64} {H55 : Int64 → Int32 → amS → amQ} (hd : 1 ≤ d) (n : Nat) (hH55 : ∀ (l1 : Int64) (l5 : Int32) (S : amS), AW X d am_m130 (wm S0 u) e 55 [(0, .ref 34), (1, .long l1), (5, .int l5)] [] S (H55 l1 l5 S)) (l1 : Int64) (l5 : Int32)  (S : amS) : AW X d am_m130 (wm S0 u) e 55 [(0, .ref 34), (1, .long l1), (5, .int l5)] [] S (h_130_55 n H55 l1 l5 S) := by
  unfold h_130_55
  refine aw_iload at_130_55 rfl ?_
  refine aw_if_lt at_130_57 ?_ ?_
  · refine aw_aload at_130_97 rfl ?_
    refine aw_getf at_130_98 gf_902 ?_
    exact aw_rI at_130_101 rfl
  · refine aw_aload at_130_60 rfl ?_
    refine aw_getf at_130_61 gf_901 ?_
    refine aw_aload at_130_64 rfl ?_
    refine aw_getf at_130_65 gf_902 ?_
    refine aw_lload at_130_68 rfl ?_
    refine aw_ic 8 at_130_69 ic_8 ?_
    refine aw_iload at_130_71 rfl ?_
    refine aw_imul at_130_73 ?_
    refine aw_lshr at_130_74 ?_
    refine aw_l2i at_130_75 ?_
    refine aw_ic 255 at_130_76 ic_255 ?_
    refine aw_iand at_130_79 ?_
    refine aw_nameK (F := fun z => .int ((Int64.toInt32 (l1 >>> ((8 * l5).toInt64 &&& 63))) &&& 255) :: .int z :: [.ref 35]) rfl (fun x2 => ?_)
    refine aw_iast at_130_80 ar_35 (as_35 _ _) (fun S3 => ?_)
    refine aw_aload at_130_81 rfl ?_
    refine aw_dupA at_130_82 ?_
    refine aw_getf at_130_83 gf_902 ?_
    refine aw_ic 1 at_130_86 ic_1 ?_
    refine aw_iadd at_130_87 ?_
    refine aw_putf at_130_88 (pf_902 _) (fun S4 => ?_)
    refine aw_iinc at_130_91 rfl (by decide) rfl ic_m1 rfl ?_
    refine aw_goto at_130_94 ?_
    exact aw_sub (al_cons rfl (al_cons rfl (al_cons rfl al_nil))) (hH55 l1 (l5 + (-1)) S4)
theorem t_130_55 {X : amX} {d e : Nat} {S0 : amS} {u : Nat → Int64} (hd : 1 ≤ d) : ∀ (n : Nat)  (l1 : Int64) (l5 : Int32) (S : amS), AW X d am_m130 (wm S0 u) e 55 [(0, .ref 34), (1, .long l1), (5, .int l5)] [] S (g_130_55 n l1 l5 S)
  | 0, _, _, _ => aw_none
  | n + 1, l1, l5, S => th_130_55 hd n (t_130_55 hd n) l1 l5 S
def g_130_42 (n : Nat) (l1 : Int64) (l3 : Int32) (s1 : Int32) (s2 : Int32) (S : amS) : amQ := az_bI (g_128 s1 s2 S) fun x1 S2 => if x1 = 0 then az_st (l3 - 1) fun x3 => g_130_55 n l1 x3 S2 else some (.inl (some (.int 0)), S2)
theorem t_130_42 {X : amX} {d e : Nat} {S0 : amS} {u : Nat → Int64} (hd : 1 ≤ d) (n : Nat)  (l1 : Int64) (l3 : Int32) (s1 : Int32) (s2 : Int32) (S : amS) : AW X d am_m130 (wm S0 u) e 42 [(0, .ref 34), (1, .long l1), (3, .int l3)] [.int s2, .int s1, .ref 34] S (g_130_42 n l1 l3 s1 s2 S) := by
  unfold g_130_42
  refine aw_cI at_130_42 rfl (c_128 (by omega) _ _ _) (fun _ h => by cases h) rfl (fun x1 S2 => ?_)
  refine aw_if_eq at_130_45 ?_ ?_
  · refine aw_iload at_130_50 rfl ?_
    refine aw_ic 1 at_130_51 ic_1 ?_
    refine aw_isub at_130_52 ?_
    refine aw_nameI (fun x3 => ?_)
    refine aw_istore at_130_53 (by decide) rfl rfl ?_
    exact aw_sub (al_cons rfl (al_cons rfl (al_cons rfl al_nil))) (t_130_55 (by omega) n l1 x3 S2)
  · refine aw_ic 0 at_130_48 ic_0 ?_
    exact aw_rI at_130_49 rfl
def g_130_41 (n : Nat) (l1 : Int64) (l3 : Int32) (s1 : Int32) (S : amS) : amQ := g_130_42 n l1 l3 s1 0 S
theorem t_130_41 {X : amX} {d e : Nat} {S0 : amS} {u : Nat → Int64} (hd : 1 ≤ d) (n : Nat)  (l1 : Int64) (l3 : Int32) (s1 : Int32) (S : amS) : AW X d am_m130 (wm S0 u) e 41 [(0, .ref 34), (1, .long l1), (3, .int l3)] [.int s1, .ref 34] S (g_130_41 n l1 l3 s1 S) := by
  unfold g_130_41
  refine aw_ic 0 at_130_41 ic_0 ?_
  exact aw_sub (al_cons rfl (al_cons rfl (al_cons rfl al_nil))) (t_130_42 (by omega) n l1 l3 s1 0 S)
def g_130_15 (n : Nat) (l1 : Int64) (l3 : Int32) (s0 : Int32) (S : amS) : amQ := if s0 = 0 then if ((S.1 34 2) + l3) ≤ 250 then g_130_41 n l1 l3 s0 S else g_130_42 n l1 l3 s0 1 S else g_130_41 n l1 l3 s0 S
theorem t_130_15 {X : amX} {d e : Nat} {S0 : amS} {u : Nat → Int64} (hd : 1 ≤ d) (n : Nat)  (l1 : Int64) (l3 : Int32) (s0 : Int32) (S : amS) : AW X d am_m130 (wm S0 u) e 15 [(0, .ref 34), (1, .long l1), (3, .int l3)] [.int s0] S (g_130_15 n l1 l3 s0 S) := by
  unfold g_130_15
  refine aw_istore at_130_15 (by decide) rfl rfl ?_
  refine aw_aload at_130_17 rfl ?_
  refine aw_iload at_130_18 rfl ?_
  refine aw_iload at_130_20 rfl ?_
  refine aw_if_ne at_130_22 ?_ ?_
  · exact aw_sub (al_cons rfl (al_cons rfl (al_cons rfl al_nil))) (t_130_41 (by omega) n l1 l3 s0 S)
  · refine aw_aload at_130_25 rfl ?_
    refine aw_getf at_130_26 gf_902 ?_
    refine aw_iload at_130_29 rfl ?_
    refine aw_iadd at_130_30 ?_
    refine aw_ic 250 at_130_31 ic_250 ?_
    refine aw_icmp_le at_130_34 ?_ ?_
    · exact aw_sub (al_cons rfl (al_cons rfl (al_cons rfl al_nil))) (t_130_41 (by omega) n l1 l3 s0 S)
    · refine aw_ic 1 at_130_37 ic_1 ?_
      refine aw_goto at_130_38 ?_
      exact aw_sub (al_cons rfl (al_cons rfl (al_cons rfl al_nil))) (t_130_42 (by omega) n l1 l3 s0 1 S)
def g_130 (n : Nat) (l1 : Int64) (l3 : Int32) (S : amS) : amQ := az_bI (g_129 l3 1 8 S) fun x1 S2 => if x1 = 0 then g_130_15 n l1 l3 1 S2 else g_130_15 n l1 l3 0 S2
theorem t_130 {X : amX} {d e : Nat} {S0 : amS} {u : Nat → Int64} (hd : 1 ≤ d) (n : Nat)  (l1 : Int64) (l3 : Int32) (S : amS) : AW X d am_m130 (wm S0 u) e 0 [(0, .ref 34), (1, .long l1), (3, .int l3)] [] S (g_130 n l1 l3 S) := by
  unfold g_130
  refine aw_iload at_130_0 rfl ?_
  refine aw_ic 1 at_130_1 ic_1 ?_
  refine aw_ic 8 at_130_2 ic_8 ?_
  refine aw_cI at_130_4 rfl (c_129 (by omega) _ _ _ _) (fun _ h => by cases h) rfl (fun x1 S2 => ?_)
  refine aw_if_ne at_130_7 ?_ ?_
  · refine aw_ic 0 at_130_14 ic_0 ?_
    exact aw_sub (al_cons rfl (al_cons rfl (al_cons rfl al_nil))) (t_130_15 (by omega) n l1 l3 0 S2)
  · refine aw_ic 1 at_130_10 ic_1 ?_
    refine aw_goto at_130_11 ?_
    exact aw_sub (al_cons rfl (al_cons rfl (al_cons rfl al_nil))) (t_130_15 (by omega) n l1 l3 1 S2)
theorem c_130 {X : amX} {d : Nat} {S0 : amS} {u : Nat → Int64} (hd : 2 ≤ d) (n : Nat) (l1 : Int64) (l3 : Int32) (S : amS) : CW X d 130 [.ref 34, .long l1, .int l3] (wm S0 u) S (g_130 n l1 l3 S) := cw_up (by omega) (fun d' h => by
  subst h
  exact cw_of rfl (by decide) (Nat.le_of_ble_eq_true rfl) rfl (fun e => t_130 (by omega) n l1 l3 S))
/-! 131: ListDeskModel.fail(I)V -/
theorem at_131_0 : am_at am_m131 0 = some (.aload 0, 1, 0) := rfl
theorem at_131_1 : am_at am_m131 1 = some (.getfield 905, 3, 127) := rfl
theorem at_131_4 : am_at am_m131 4 = some (.ifCond .eq 8, 3, 0) := rfl
theorem at_131_7 : am_at am_m131 7 = some (.return_, 1, 0) := rfl
theorem at_131_8 : am_at am_m131 8 = some (.aload 0, 1, 0) := rfl
theorem at_131_9 : am_at am_m131 9 = some (.iconst 1, 1, 0) := rfl
theorem at_131_10 : am_at am_m131 10 = some (.putfield 905, 3, 127) := rfl
theorem at_131_13 : am_at am_m131 13 = some (.aload 0, 1, 0) := rfl
theorem at_131_14 : am_at am_m131 14 = some (.iload 1, 1, 0) := rfl
theorem at_131_15 : am_at am_m131 15 = some (.putfield 906, 3, 13) := rfl
theorem at_131_18 : am_at am_m131 18 = some (.return_, 1, 0) := rfl
def g_131 (l1 : Int32) (S : amS) : amQ := if (S.1 34 5) = 0 then az_st (sI S 34 5 1) fun S1 => az_st (sI S1 34 6 l1) fun S2 => some (.inl none, S2) else some (.inl none, S)
theorem t_131 {X : amX} {d e : Nat} {S0 : amS} {u : Nat → Int64} (hd : 0 ≤ d)  (l1 : Int32) (S : amS) : AW X d am_m131 (wm S0 u) e 0 [(0, .ref 34), (1, .int l1)] [] S (g_131 l1 S) := by
  unfold g_131
  refine aw_aload at_131_0 rfl ?_
  refine aw_getf at_131_1 gf_905 ?_
  refine aw_if_eq at_131_4 ?_ ?_
  · refine aw_aload at_131_8 rfl ?_
    refine aw_ic 1 at_131_9 ic_1 ?_
    refine aw_putf at_131_10 pf_905_1 (fun S1 => ?_)
    refine aw_aload at_131_13 rfl ?_
    refine aw_iload at_131_14 rfl ?_
    refine aw_putf at_131_15 (pf_906 _) (fun S2 => ?_)
    exact aw_rV at_131_18 rfl
  · exact aw_rV at_131_7 rfl
theorem c_131 {X : amX} {d : Nat} {S0 : amS} {u : Nat → Int64} (hd : 1 ≤ d) (l1 : Int32) (S : amS) : CW X d 131 [.ref 34, .int l1] (wm S0 u) S (g_131 l1 S) := cw_up (by omega) (fun d' h => by
  subst h
  exact cw_of rfl (by decide) (Nat.le_of_ble_eq_true rfl) rfl (fun e => t_131 (by omega) l1 S))
/-! 132: ListDeskModel.see()I -/
theorem at_132_0 : am_at am_m132 0 = some (.aload 0, 1, 0) := rfl
theorem at_132_1 : am_at am_m132 1 = some (.getfield 904, 3, 131) := rfl
theorem at_132_4 : am_at am_m132 4 = some (.aload 0, 1, 0) := rfl
theorem at_132_5 : am_at am_m132 5 = some (.getfield 903, 3, 134) := rfl
theorem at_132_8 : am_at am_m132 8 = some (.if_icmp .ge 38, 3, 0) := rfl
theorem at_132_11 : am_at am_m132 11 = some (.aload 0, 1, 0) := rfl
theorem at_132_12 : am_at am_m132 12 = some (.getfield 901, 3, 7) := rfl
theorem at_132_15 : am_at am_m132 15 = some (.aload 0, 1, 0) := rfl
theorem at_132_16 : am_at am_m132 16 = some (.getfield 904, 3, 131) := rfl
theorem at_132_19 : am_at am_m132 19 = some (.iaload, 1, 0) := rfl
theorem at_132_20 : am_at am_m132 20 = some (.iconst 32, 2, 1) := rfl
theorem at_132_22 : am_at am_m132 22 = some (.if_icmp .ne 38, 3, 0) := rfl
theorem at_132_25 : am_at am_m132 25 = some (.aload 0, 1, 0) := rfl
theorem at_132_26 : am_at am_m132 26 = some (.dup, 1, 0) := rfl
theorem at_132_27 : am_at am_m132 27 = some (.getfield 904, 3, 131) := rfl
theorem at_132_30 : am_at am_m132 30 = some (.iconst 1, 1, 0) := rfl
theorem at_132_31 : am_at am_m132 31 = some (.iadd, 1, 0) := rfl
theorem at_132_32 : am_at am_m132 32 = some (.putfield 904, 3, 131) := rfl
theorem at_132_35 : am_at am_m132 35 = some (.goto 0, 3, 0) := rfl
theorem at_132_38 : am_at am_m132 38 = some (.aload 0, 1, 0) := rfl
theorem at_132_39 : am_at am_m132 39 = some (.getfield 904, 3, 131) := rfl
theorem at_132_42 : am_at am_m132 42 = some (.aload 0, 1, 0) := rfl
theorem at_132_43 : am_at am_m132 43 = some (.getfield 903, 3, 134) := rfl
theorem at_132_46 : am_at am_m132 46 = some (.if_icmp .ge 61, 3, 0) := rfl
theorem at_132_49 : am_at am_m132 49 = some (.aload 0, 1, 0) := rfl
theorem at_132_50 : am_at am_m132 50 = some (.getfield 901, 3, 7) := rfl
theorem at_132_53 : am_at am_m132 53 = some (.aload 0, 1, 0) := rfl
theorem at_132_54 : am_at am_m132 54 = some (.getfield 904, 3, 131) := rfl
theorem at_132_57 : am_at am_m132 57 = some (.iaload, 1, 0) := rfl
theorem at_132_58 : am_at am_m132 58 = some (.goto 62, 3, 0) := rfl
theorem at_132_61 : am_at am_m132 61 = some (.iconst (-1), 1, 0) := rfl
theorem at_132_62 : am_at am_m132 62 = some (.ireturn, 1, 0) := rfl
def g_132_38 (n : Nat) (S : amS) : amQ := if (S.1 34 3) ≤ (S.1 34 4) then some (.inl (some (.int ((-1)))), S) else az_ck (S.1 34 4) 250 (some (.inl (some (.int (S.1 35 (S.1 34 4).toNatClampNeg))), S))
theorem t_132_38 {X : amX} {d e : Nat} {S0 : amS} {u : Nat → Int64} (hd : 0 ≤ d) (n : Nat)  (S : amS) : AW X d am_m132 (wm S0 u) e 38 [(0, .ref 34)] [] S (g_132_38 n S) := by
  unfold g_132_38
  refine aw_aload at_132_38 rfl ?_
  refine aw_getf at_132_39 gf_904 ?_
  refine aw_aload at_132_42 rfl ?_
  refine aw_getf at_132_43 gf_903 ?_
  refine aw_icmp_ge at_132_46 ?_ ?_
  · refine aw_ic (-1) at_132_61 ic_m1 ?_
    exact aw_rI at_132_62 rfl
  · refine aw_aload at_132_49 rfl ?_
    refine aw_getf at_132_50 gf_901 ?_
    refine aw_aload at_132_53 rfl ?_
    refine aw_getf at_132_54 gf_904 ?_
    refine aw_iald at_132_57 ai_35 ?_
    refine aw_goto at_132_58 ?_
    exact aw_rI at_132_62 rfl
def h_132 (n : Nat) (H0 : amS → amQ) (S : amS) : amQ := if (S.1 34 3) ≤ (S.1 34 4) then g_132_38 n S else az_ck (S.1 34 4) 250 (if (S.1 35 (S.1 34 4).toNatClampNeg) = 32 then az_st (sI S 34 4 ((S.1 34 4) + 1)) fun S1 => H0 S1 else g_132_38 n S)
def g_132 : Nat → amS → amQ
  | 0 => fun _ => none
  | n + 1 => h_132 n (g_132 n)
theorem th_132 {X : amX} {d e : Nat} {S0 : amS} {u : Nat → Int64} {H0 : amS → amQ} (hd : 0 ≤ d) (n : Nat) (hH0 : ∀ (S : amS), AW X d am_m132 (wm S0 u) e 0 [(0, .ref 34)] [] S (H0 S))  (S : amS) : AW X d am_m132 (wm S0 u) e 0 [(0, .ref 34)] [] S (h_132 n H0 S) := by
  unfold h_132
  refine aw_aload at_132_0 rfl ?_
  refine aw_getf at_132_1 gf_904 ?_
  refine aw_aload at_132_4 rfl ?_
  refine aw_getf at_132_5 gf_903 ?_
  refine aw_icmp_ge at_132_8 ?_ ?_
  · exact aw_sub (al_cons rfl al_nil) (t_132_38 (by omega) n S)
  · refine aw_aload at_132_11 rfl ?_
    refine aw_getf at_132_12 gf_901 ?_
    refine aw_aload at_132_15 rfl ?_
    refine aw_getf at_132_16 gf_904 ?_
    refine aw_iald at_132_19 ai_35 ?_
    refine aw_ic 32 at_132_20 ic_32 ?_
    refine aw_icmp_ne at_132_22 ?_ ?_
    · exact aw_sub (al_cons rfl al_nil) (t_132_38 (by omega) n S)
    · refine aw_aload at_132_25 rfl ?_
      refine aw_dupA at_132_26 ?_
      refine aw_getf at_132_27 gf_904 ?_
      refine aw_ic 1 at_132_30 ic_1 ?_
      refine aw_iadd at_132_31 ?_
      refine aw_putf at_132_32 (pf_904 _) (fun S1 => ?_)
      refine aw_goto at_132_35 ?_
      exact aw_sub (al_cons rfl al_nil) (hH0 S1)
theorem t_132 {X : amX} {d e : Nat} {S0 : amS} {u : Nat → Int64} (hd : 0 ≤ d) : ∀ (n : Nat)  (S : amS), AW X d am_m132 (wm S0 u) e 0 [(0, .ref 34)] [] S (g_132 n S)
  | 0, _ => aw_none
  | n + 1, S => th_132 hd n (t_132 hd n) S
theorem c_132 {X : amX} {d : Nat} {S0 : amS} {u : Nat → Int64} (hd : 1 ≤ d) (n : Nat) (S : amS) : CW X d 132 [.ref 34] (wm S0 u) S (g_132 n S) := cw_up (by omega) (fun d' h => by
  subst h
  exact cw_of rfl (by decide) (Nat.le_of_ble_eq_true rfl) rfl (fun e => t_132 (by omega) n S))
/-! 133: ListDeskModel.sign(I)V -/
theorem at_133_0 : am_at am_m133 0 = some (.aload 0, 1, 0) := rfl
theorem at_133_1 : am_at am_m133 1 = some (.invokevirtual 132, 3, 137) := rfl
theorem at_133_4 : am_at am_m133 4 = some (.iload 1, 1, 0) := rfl
theorem at_133_5 : am_at am_m133 5 = some (.if_icmp .eq 16, 3, 0) := rfl
theorem at_133_8 : am_at am_m133 8 = some (.aload 0, 1, 0) := rfl
theorem at_133_9 : am_at am_m133 9 = some (.aload 0, 1, 0) := rfl
theorem at_133_10 : am_at am_m133 10 = some (.getfield 904, 3, 131) := rfl
theorem at_133_13 : am_at am_m133 13 = some (.invokevirtual 131, 3, 141) := rfl
theorem at_133_16 : am_at am_m133 16 = some (.aload 0, 1, 0) := rfl
theorem at_133_17 : am_at am_m133 17 = some (.dup, 1, 0) := rfl
theorem at_133_18 : am_at am_m133 18 = some (.getfield 904, 3, 131) := rfl
theorem at_133_21 : am_at am_m133 21 = some (.iconst 1, 1, 0) := rfl
theorem at_133_22 : am_at am_m133 22 = some (.iadd, 1, 0) := rfl
theorem at_133_23 : am_at am_m133 23 = some (.putfield 904, 3, 131) := rfl
theorem at_133_26 : am_at am_m133 26 = some (.return_, 1, 0) := rfl
def g_133_16 (n : Nat) (S : amS) : amQ := az_st (sI S 34 4 ((S.1 34 4) + 1)) fun S1 => some (.inl none, S1)
theorem t_133_16 {X : amX} {d e : Nat} {S0 : amS} {u : Nat → Int64} (hd : 1 ≤ d) (n : Nat)  (S : amS) : AW X d am_m133 (wm S0 u) e 16 [(0, .ref 34)] [] S (g_133_16 n S) := by
  unfold g_133_16
  refine aw_aload at_133_16 rfl ?_
  refine aw_dupA at_133_17 ?_
  refine aw_getf at_133_18 gf_904 ?_
  refine aw_ic 1 at_133_21 ic_1 ?_
  refine aw_iadd at_133_22 ?_
  refine aw_putf at_133_23 (pf_904 _) (fun S1 => ?_)
  exact aw_rV at_133_26 rfl
def g_133 (n : Nat) (l1 : Int32) (S : amS) : amQ := az_bI (g_132 n S) fun x1 S2 => if x1 = l1 then g_133_16 n S2 else az_bV (g_131 (S2.1 34 4) S2) fun S3 => g_133_16 n S3
theorem t_133 {X : amX} {d e : Nat} {S0 : amS} {u : Nat → Int64} (hd : 1 ≤ d) (n : Nat)  (l1 : Int32) (S : amS) : AW X d am_m133 (wm S0 u) e 0 [(0, .ref 34), (1, .int l1)] [] S (g_133 n l1 S) := by
  unfold g_133
  refine aw_aload at_133_0 rfl ?_
  refine aw_cI at_133_1 rfl (c_132 (by omega) n _) (fun _ h => by cases h) rfl (fun x1 S2 => ?_)
  refine aw_iload at_133_4 rfl ?_
  refine aw_icmp_eq at_133_5 ?_ ?_
  · exact aw_sub (al_cons rfl al_nil) (t_133_16 (by omega) n S2)
  · refine aw_aload at_133_8 rfl ?_
    refine aw_aload at_133_9 rfl ?_
    refine aw_getf at_133_10 gf_904 ?_
    refine aw_cV at_133_13 rfl (c_131 (by omega) _ _) (fun _ h => by cases h) rfl (fun S3 => ?_)
    exact aw_sub (al_cons rfl al_nil) (t_133_16 (by omega) n S3)
theorem c_133 {X : amX} {d : Nat} {S0 : amS} {u : Nat → Int64} (hd : 2 ≤ d) (n : Nat) (l1 : Int32) (S : amS) : CW X d 133 [.ref 34, .int l1] (wm S0 u) S (g_133 n l1 S) := cw_up (by omega) (fun d' h => by
  subst h
  exact cw_of rfl (by decide) (Nat.le_of_ble_eq_true rfl) rfl (fun e => t_133 (by omega) n l1 S))
/-! 134: ListDeskModel.word()V -/
theorem at_134_0 : am_at am_m134 0 = some (.aload 0, 1, 0) := rfl
theorem at_134_1 : am_at am_m134 1 = some (.invokevirtual 132, 3, 137) := rfl
theorem at_134_4 : am_at am_m134 4 = some (.pop, 1, 0) := rfl
theorem at_134_5 : am_at am_m134 5 = some (.aload 0, 1, 0) := rfl
theorem at_134_6 : am_at am_m134 6 = some (.aload 0, 1, 0) := rfl
theorem at_134_7 : am_at am_m134 7 = some (.getfield 904, 3, 131) := rfl
theorem at_134_10 : am_at am_m134 10 = some (.putfield 927, 3, 145) := rfl
theorem at_134_13 : am_at am_m134 13 = some (.aload 0, 1, 0) := rfl
theorem at_134_14 : am_at am_m134 14 = some (.getfield 904, 3, 131) := rfl
theorem at_134_17 : am_at am_m134 17 = some (.aload 0, 1, 0) := rfl
theorem at_134_18 : am_at am_m134 18 = some (.getfield 903, 3, 134) := rfl
theorem at_134_21 : am_at am_m134 21 = some (.if_icmp .ge 79, 3, 0) := rfl
theorem at_134_24 : am_at am_m134 24 = some (.aload 0, 1, 0) := rfl
theorem at_134_25 : am_at am_m134 25 = some (.getfield 901, 3, 7) := rfl
theorem at_134_28 : am_at am_m134 28 = some (.aload 0, 1, 0) := rfl
theorem at_134_29 : am_at am_m134 29 = some (.getfield 904, 3, 131) := rfl
theorem at_134_32 : am_at am_m134 32 = some (.iaload, 1, 0) := rfl
theorem at_134_33 : am_at am_m134 33 = some (.iconst 32, 2, 1) := rfl
theorem at_134_35 : am_at am_m134 35 = some (.if_icmp .eq 79, 3, 0) := rfl
theorem at_134_38 : am_at am_m134 38 = some (.aload 0, 1, 0) := rfl
theorem at_134_39 : am_at am_m134 39 = some (.getfield 901, 3, 7) := rfl
theorem at_134_42 : am_at am_m134 42 = some (.aload 0, 1, 0) := rfl
theorem at_134_43 : am_at am_m134 43 = some (.getfield 904, 3, 131) := rfl
theorem at_134_46 : am_at am_m134 46 = some (.iaload, 1, 0) := rfl
theorem at_134_47 : am_at am_m134 47 = some (.iconst 40, 2, 1) := rfl
theorem at_134_49 : am_at am_m134 49 = some (.if_icmp .eq 79, 3, 0) := rfl
theorem at_134_52 : am_at am_m134 52 = some (.aload 0, 1, 0) := rfl
theorem at_134_53 : am_at am_m134 53 = some (.getfield 901, 3, 7) := rfl
theorem at_134_56 : am_at am_m134 56 = some (.aload 0, 1, 0) := rfl
theorem at_134_57 : am_at am_m134 57 = some (.getfield 904, 3, 131) := rfl
theorem at_134_60 : am_at am_m134 60 = some (.iaload, 1, 0) := rfl
theorem at_134_61 : am_at am_m134 61 = some (.iconst 41, 2, 1) := rfl
theorem at_134_63 : am_at am_m134 63 = some (.if_icmp .eq 79, 3, 0) := rfl
theorem at_134_66 : am_at am_m134 66 = some (.aload 0, 1, 0) := rfl
theorem at_134_67 : am_at am_m134 67 = some (.dup, 1, 0) := rfl
theorem at_134_68 : am_at am_m134 68 = some (.getfield 904, 3, 131) := rfl
theorem at_134_71 : am_at am_m134 71 = some (.iconst 1, 1, 0) := rfl
theorem at_134_72 : am_at am_m134 72 = some (.iadd, 1, 0) := rfl
theorem at_134_73 : am_at am_m134 73 = some (.putfield 904, 3, 131) := rfl
theorem at_134_76 : am_at am_m134 76 = some (.goto 13, 3, 0) := rfl
theorem at_134_79 : am_at am_m134 79 = some (.aload 0, 1, 0) := rfl
theorem at_134_80 : am_at am_m134 80 = some (.aload 0, 1, 0) := rfl
theorem at_134_81 : am_at am_m134 81 = some (.getfield 904, 3, 131) := rfl
theorem at_134_84 : am_at am_m134 84 = some (.putfield 928, 3, 148) := rfl
theorem at_134_87 : am_at am_m134 87 = some (.return_, 1, 0) := rfl
def g_134_79 (n : Nat) (S : amS) : amQ := az_st (sI S 34 28 (S.1 34 4)) fun S1 => some (.inl none, S1)
theorem t_134_79 {X : amX} {d e : Nat} {S0 : amS} {u : Nat → Int64} (hd : 1 ≤ d) (n : Nat)  (S : amS) : AW X d am_m134 (wm S0 u) e 79 [(0, .ref 34)] [] S (g_134_79 n S) := by
  unfold g_134_79
  refine aw_aload at_134_79 rfl ?_
  refine aw_aload at_134_80 rfl ?_
  refine aw_getf at_134_81 gf_904 ?_
  refine aw_putf at_134_84 (pf_928 _) (fun S1 => ?_)
  exact aw_rV at_134_87 rfl
def h_134_13 (n : Nat) (H13 : amS → amQ) (S : amS) : amQ := if (S.1 34 3) ≤ (S.1 34 4) then g_134_79 n S else az_ck (S.1 34 4) 250 (if (S.1 35 (S.1 34 4).toNatClampNeg) = 32 then g_134_79 n S else az_ck (S.1 34 4) 250 (if (S.1 35 (S.1 34 4).toNatClampNeg) = 40 then g_134_79 n S else az_ck (S.1 34 4) 250 (if (S.1 35 (S.1 34 4).toNatClampNeg) = 41 then g_134_79 n S else az_st (sI S 34 4 ((S.1 34 4) + 1)) fun S1 => H13 S1)))
def g_134_13 : Nat → amS → amQ
  | 0 => fun _ => none
  | n + 1 => h_134_13 n (g_134_13 n)
theorem th_134_13 {X : amX} {d e : Nat} {S0 : amS} {u : Nat → Int64} {H13 : amS → amQ} (hd : 1 ≤ d) (n : Nat) (hH13 : ∀ (S : amS), AW X d am_m134 (wm S0 u) e 13 [(0, .ref 34)] [] S (H13 S))  (S : amS) : AW X d am_m134 (wm S0 u) e 13 [(0, .ref 34)] [] S (h_134_13 n H13 S) := by
  unfold h_134_13
  refine aw_aload at_134_13 rfl ?_
  refine aw_getf at_134_14 gf_904 ?_
  refine aw_aload at_134_17 rfl ?_
  refine aw_getf at_134_18 gf_903 ?_
  refine aw_icmp_ge at_134_21 ?_ ?_
  · exact aw_sub (al_cons rfl al_nil) (t_134_79 (by omega) n S)
  · refine aw_aload at_134_24 rfl ?_
    refine aw_getf at_134_25 gf_901 ?_
    refine aw_aload at_134_28 rfl ?_
    refine aw_getf at_134_29 gf_904 ?_
    refine aw_iald at_134_32 ai_35 ?_
    refine aw_ic 32 at_134_33 ic_32 ?_
    refine aw_icmp_eq at_134_35 ?_ ?_
    · exact aw_sub (al_cons rfl al_nil) (t_134_79 (by omega) n S)
    · refine aw_aload at_134_38 rfl ?_
      refine aw_getf at_134_39 gf_901 ?_
      refine aw_aload at_134_42 rfl ?_
      refine aw_getf at_134_43 gf_904 ?_
      refine aw_iald at_134_46 ai_35 ?_
      refine aw_ic 40 at_134_47 ic_40 ?_
      refine aw_icmp_eq at_134_49 ?_ ?_
      · exact aw_sub (al_cons rfl al_nil) (t_134_79 (by omega) n S)
      · refine aw_aload at_134_52 rfl ?_
        refine aw_getf at_134_53 gf_901 ?_
        refine aw_aload at_134_56 rfl ?_
        refine aw_getf at_134_57 gf_904 ?_
        refine aw_iald at_134_60 ai_35 ?_
        refine aw_ic 41 at_134_61 ic_41 ?_
        refine aw_icmp_eq at_134_63 ?_ ?_
        · exact aw_sub (al_cons rfl al_nil) (t_134_79 (by omega) n S)
        · refine aw_aload at_134_66 rfl ?_
          refine aw_dupA at_134_67 ?_
          refine aw_getf at_134_68 gf_904 ?_
          refine aw_ic 1 at_134_71 ic_1 ?_
          refine aw_iadd at_134_72 ?_
          refine aw_putf at_134_73 (pf_904 _) (fun S1 => ?_)
          refine aw_goto at_134_76 ?_
          exact aw_sub (al_cons rfl al_nil) (hH13 S1)
theorem t_134_13 {X : amX} {d e : Nat} {S0 : amS} {u : Nat → Int64} (hd : 1 ≤ d) : ∀ (n : Nat)  (S : amS), AW X d am_m134 (wm S0 u) e 13 [(0, .ref 34)] [] S (g_134_13 n S)
  | 0, _ => aw_none
  | n + 1, S => th_134_13 hd n (t_134_13 hd n) S
def g_134 (n : Nat) (S : amS) : amQ := az_bI (g_132 n S) fun x1 S2 => az_st (sI S2 34 27 (S2.1 34 4)) fun S3 => g_134_13 n S3
theorem t_134 {X : amX} {d e : Nat} {S0 : amS} {u : Nat → Int64} (hd : 1 ≤ d) (n : Nat)  (S : amS) : AW X d am_m134 (wm S0 u) e 0 [(0, .ref 34)] [] S (g_134 n S) := by
  unfold g_134
  refine aw_aload at_134_0 rfl ?_
  refine aw_cI at_134_1 rfl (c_132 (by omega) n _) (fun _ h => by cases h) rfl (fun x1 S2 => ?_)
  refine aw_popI at_134_4 ?_
  refine aw_aload at_134_5 rfl ?_
  refine aw_aload at_134_6 rfl ?_
  refine aw_getf at_134_7 gf_904 ?_
  refine aw_putf at_134_10 (pf_927 _) (fun S3 => ?_)
  exact aw_sub (al_cons rfl al_nil) (t_134_13 (by omega) n S3)
theorem c_134 {X : amX} {d : Nat} {S0 : amS} {u : Nat → Int64} (hd : 2 ≤ d) (n : Nat) (S : amS) : CW X d 134 [.ref 34] (wm S0 u) S (g_134 n S) := cw_up (by omega) (fun d' h => by
  subst h
  exact cw_of rfl (by decide) (Nat.le_of_ble_eq_true rfl) rfl (fun e => t_134 (by omega) n S))
/-! 135: ListDeskModel.isWord(IIIIII)Z -/
theorem at_135_0 : am_at am_m135 0 = some (.iload 6, 2, 0) := rfl
theorem at_135_2 : am_at am_m135 2 = some (.ifCond .eq 10, 3, 0) := rfl
theorem at_135_5 : am_at am_m135 5 = some (.iconst 6, 2, 1) := rfl
theorem at_135_7 : am_at am_m135 7 = some (.goto 45, 3, 0) := rfl
theorem at_135_10 : am_at am_m135 10 = some (.iload 5, 2, 0) := rfl
theorem at_135_12 : am_at am_m135 12 = some (.ifCond .eq 19, 3, 0) := rfl
theorem at_135_15 : am_at am_m135 15 = some (.iconst 5, 1, 0) := rfl
theorem at_135_16 : am_at am_m135 16 = some (.goto 45, 3, 0) := rfl
theorem at_135_19 : am_at am_m135 19 = some (.iload 4, 2, 0) := rfl
theorem at_135_21 : am_at am_m135 21 = some (.ifCond .eq 28, 3, 0) := rfl
theorem at_135_24 : am_at am_m135 24 = some (.iconst 4, 1, 0) := rfl
theorem at_135_25 : am_at am_m135 25 = some (.goto 45, 3, 0) := rfl
theorem at_135_28 : am_at am_m135 28 = some (.iload 3, 1, 0) := rfl
theorem at_135_29 : am_at am_m135 29 = some (.ifCond .eq 36, 3, 0) := rfl
theorem at_135_32 : am_at am_m135 32 = some (.iconst 3, 1, 0) := rfl
theorem at_135_33 : am_at am_m135 33 = some (.goto 45, 3, 0) := rfl
theorem at_135_36 : am_at am_m135 36 = some (.iload 2, 1, 0) := rfl
theorem at_135_37 : am_at am_m135 37 = some (.ifCond .eq 44, 3, 0) := rfl
theorem at_135_40 : am_at am_m135 40 = some (.iconst 2, 1, 0) := rfl
theorem at_135_41 : am_at am_m135 41 = some (.goto 45, 3, 0) := rfl
theorem at_135_44 : am_at am_m135 44 = some (.iconst 1, 1, 0) := rfl
theorem at_135_45 : am_at am_m135 45 = some (.istore 7, 2, 0) := rfl
theorem at_135_47 : am_at am_m135 47 = some (.aload 0, 1, 0) := rfl
theorem at_135_48 : am_at am_m135 48 = some (.getfield 928, 3, 148) := rfl
theorem at_135_51 : am_at am_m135 51 = some (.aload 0, 1, 0) := rfl
theorem at_135_52 : am_at am_m135 52 = some (.getfield 927, 3, 145) := rfl
theorem at_135_55 : am_at am_m135 55 = some (.isub, 1, 0) := rfl
theorem at_135_56 : am_at am_m135 56 = some (.iload 7, 2, 0) := rfl
theorem at_135_58 : am_at am_m135 58 = some (.if_icmp .eq 63, 3, 0) := rfl
theorem at_135_61 : am_at am_m135 61 = some (.iconst 0, 1, 0) := rfl
theorem at_135_62 : am_at am_m135 62 = some (.ireturn, 1, 0) := rfl
theorem at_135_63 : am_at am_m135 63 = some (.aload 0, 1, 0) := rfl
theorem at_135_64 : am_at am_m135 64 = some (.getfield 901, 3, 7) := rfl
theorem at_135_67 : am_at am_m135 67 = some (.aload 0, 1, 0) := rfl
theorem at_135_68 : am_at am_m135 68 = some (.getfield 927, 3, 145) := rfl
theorem at_135_71 : am_at am_m135 71 = some (.iaload, 1, 0) := rfl
theorem at_135_72 : am_at am_m135 72 = some (.iload 1, 1, 0) := rfl
theorem at_135_73 : am_at am_m135 73 = some (.if_icmp .ne 122, 3, 0) := rfl
theorem at_135_76 : am_at am_m135 76 = some (.iload 7, 2, 0) := rfl
theorem at_135_78 : am_at am_m135 78 = some (.iconst 2, 1, 0) := rfl
theorem at_135_79 : am_at am_m135 79 = some (.if_icmp .lt 97, 3, 0) := rfl
theorem at_135_82 : am_at am_m135 82 = some (.aload 0, 1, 0) := rfl
theorem at_135_83 : am_at am_m135 83 = some (.getfield 901, 3, 7) := rfl
theorem at_135_86 : am_at am_m135 86 = some (.aload 0, 1, 0) := rfl
theorem at_135_87 : am_at am_m135 87 = some (.getfield 927, 3, 145) := rfl
theorem at_135_90 : am_at am_m135 90 = some (.iconst 1, 1, 0) := rfl
theorem at_135_91 : am_at am_m135 91 = some (.iadd, 1, 0) := rfl
theorem at_135_92 : am_at am_m135 92 = some (.iaload, 1, 0) := rfl
theorem at_135_93 : am_at am_m135 93 = some (.iload 2, 1, 0) := rfl
theorem at_135_94 : am_at am_m135 94 = some (.if_icmp .ne 122, 3, 0) := rfl
theorem at_135_97 : am_at am_m135 97 = some (.iload 7, 2, 0) := rfl
theorem at_135_99 : am_at am_m135 99 = some (.iconst 3, 1, 0) := rfl
theorem at_135_100 : am_at am_m135 100 = some (.if_icmp .lt 118, 3, 0) := rfl
theorem at_135_103 : am_at am_m135 103 = some (.aload 0, 1, 0) := rfl
theorem at_135_104 : am_at am_m135 104 = some (.getfield 901, 3, 7) := rfl
theorem at_135_107 : am_at am_m135 107 = some (.aload 0, 1, 0) := rfl
theorem at_135_108 : am_at am_m135 108 = some (.getfield 927, 3, 145) := rfl
theorem at_135_111 : am_at am_m135 111 = some (.iconst 2, 1, 0) := rfl
theorem at_135_112 : am_at am_m135 112 = some (.iadd, 1, 0) := rfl
theorem at_135_113 : am_at am_m135 113 = some (.iaload, 1, 0) := rfl
theorem at_135_114 : am_at am_m135 114 = some (.iload 3, 1, 0) := rfl
theorem at_135_115 : am_at am_m135 115 = some (.if_icmp .ne 122, 3, 0) := rfl
theorem at_135_118 : am_at am_m135 118 = some (.iconst 1, 1, 0) := rfl
theorem at_135_119 : am_at am_m135 119 = some (.goto 123, 3, 0) := rfl
theorem at_135_122 : am_at am_m135 122 = some (.iconst 0, 1, 0) := rfl
theorem at_135_123 : am_at am_m135 123 = some (.istore 8, 2, 0) := rfl
theorem at_135_125 : am_at am_m135 125 = some (.iload 8, 2, 0) := rfl
theorem at_135_127 : am_at am_m135 127 = some (.ifCond .eq 201, 3, 0) := rfl
theorem at_135_130 : am_at am_m135 130 = some (.iload 7, 2, 0) := rfl
theorem at_135_132 : am_at am_m135 132 = some (.iconst 4, 1, 0) := rfl
theorem at_135_133 : am_at am_m135 133 = some (.if_icmp .lt 152, 3, 0) := rfl
theorem at_135_136 : am_at am_m135 136 = some (.aload 0, 1, 0) := rfl
theorem at_135_137 : am_at am_m135 137 = some (.getfield 901, 3, 7) := rfl
theorem at_135_140 : am_at am_m135 140 = some (.aload 0, 1, 0) := rfl
theorem at_135_141 : am_at am_m135 141 = some (.getfield 927, 3, 145) := rfl
theorem at_135_144 : am_at am_m135 144 = some (.iconst 3, 1, 0) := rfl
theorem at_135_145 : am_at am_m135 145 = some (.iadd, 1, 0) := rfl
theorem at_135_146 : am_at am_m135 146 = some (.iaload, 1, 0) := rfl
theorem at_135_147 : am_at am_m135 147 = some (.iload 4, 2, 0) := rfl
theorem at_135_149 : am_at am_m135 149 = some (.if_icmp .ne 201, 3, 0) := rfl
theorem at_135_152 : am_at am_m135 152 = some (.iload 7, 2, 0) := rfl
theorem at_135_154 : am_at am_m135 154 = some (.iconst 5, 1, 0) := rfl
theorem at_135_155 : am_at am_m135 155 = some (.if_icmp .lt 174, 3, 0) := rfl
theorem at_135_158 : am_at am_m135 158 = some (.aload 0, 1, 0) := rfl
theorem at_135_159 : am_at am_m135 159 = some (.getfield 901, 3, 7) := rfl
theorem at_135_162 : am_at am_m135 162 = some (.aload 0, 1, 0) := rfl
theorem at_135_163 : am_at am_m135 163 = some (.getfield 927, 3, 145) := rfl
theorem at_135_166 : am_at am_m135 166 = some (.iconst 4, 1, 0) := rfl
theorem at_135_167 : am_at am_m135 167 = some (.iadd, 1, 0) := rfl
theorem at_135_168 : am_at am_m135 168 = some (.iaload, 1, 0) := rfl
theorem at_135_169 : am_at am_m135 169 = some (.iload 5, 2, 0) := rfl
theorem at_135_171 : am_at am_m135 171 = some (.if_icmp .ne 201, 3, 0) := rfl
theorem at_135_174 : am_at am_m135 174 = some (.iload 7, 2, 0) := rfl
theorem at_135_176 : am_at am_m135 176 = some (.iconst 6, 2, 1) := rfl
theorem at_135_178 : am_at am_m135 178 = some (.if_icmp .lt 197, 3, 0) := rfl
theorem at_135_181 : am_at am_m135 181 = some (.aload 0, 1, 0) := rfl
theorem at_135_182 : am_at am_m135 182 = some (.getfield 901, 3, 7) := rfl
theorem at_135_185 : am_at am_m135 185 = some (.aload 0, 1, 0) := rfl
theorem at_135_186 : am_at am_m135 186 = some (.getfield 927, 3, 145) := rfl
theorem at_135_189 : am_at am_m135 189 = some (.iconst 5, 1, 0) := rfl
theorem at_135_190 : am_at am_m135 190 = some (.iadd, 1, 0) := rfl
theorem at_135_191 : am_at am_m135 191 = some (.iaload, 1, 0) := rfl
theorem at_135_192 : am_at am_m135 192 = some (.iload 6, 2, 0) := rfl
theorem at_135_194 : am_at am_m135 194 = some (.if_icmp .ne 201, 3, 0) := rfl
theorem at_135_197 : am_at am_m135 197 = some (.iconst 1, 1, 0) := rfl
theorem at_135_198 : am_at am_m135 198 = some (.goto 202, 3, 0) := rfl
theorem at_135_201 : am_at am_m135 201 = some (.iconst 0, 1, 0) := rfl
theorem at_135_202 : am_at am_m135 202 = some (.ireturn, 1, 0) := rfl
def g_135_174 (l6 : Int32) (l7 : Int32) (S : amS) : amQ := if l7 < 6 then some (.inl (some (.int 1)), S) else az_ck ((S.1 34 27) + 5) 250 (if (S.1 35 ((S.1 34 27) + 5).toNatClampNeg) = l6 then some (.inl (some (.int 1)), S) else some (.inl (some (.int 0)), S))
theorem t_135_174 {X : amX} {d e : Nat} {S0 : amS} {u : Nat → Int64} (hd : 0 ≤ d)  (l6 : Int32) (l7 : Int32) (S : amS) : AW X d am_m135 (wm S0 u) e 174 [(0, .ref 34), (6, .int l6), (7, .int l7)] [] S (g_135_174 l6 l7 S) := by
  unfold g_135_174
  refine aw_iload at_135_174 rfl ?_
  refine aw_ic 6 at_135_176 ic_6 ?_
  refine aw_icmp_lt at_135_178 ?_ ?_
  · refine aw_ic 1 at_135_197 ic_1 ?_
    refine aw_goto at_135_198 ?_
    exact aw_rZ at_135_202 rfl (Or.inr rfl)
  · refine aw_aload at_135_181 rfl ?_
    refine aw_getf at_135_182 gf_901 ?_
    refine aw_aload at_135_185 rfl ?_
    refine aw_getf at_135_186 gf_927 ?_
    refine aw_ic 5 at_135_189 ic_5 ?_
    refine aw_iadd at_135_190 ?_
    refine aw_iald at_135_191 ai_35 ?_
    refine aw_iload at_135_192 rfl ?_
    refine aw_icmp_ne at_135_194 ?_ ?_
    · refine aw_ic 0 at_135_201 ic_0 ?_
      exact aw_rZ at_135_202 rfl (Or.inl rfl)
    · refine aw_ic 1 at_135_197 ic_1 ?_
      refine aw_goto at_135_198 ?_
      exact aw_rZ at_135_202 rfl (Or.inr rfl)
def g_135_152 (l5 : Int32) (l6 : Int32) (l7 : Int32) (S : amS) : amQ := if l7 < 5 then g_135_174 l6 l7 S else az_ck ((S.1 34 27) + 4) 250 (if (S.1 35 ((S.1 34 27) + 4).toNatClampNeg) = l5 then g_135_174 l6 l7 S else some (.inl (some (.int 0)), S))
theorem t_135_152 {X : amX} {d e : Nat} {S0 : amS} {u : Nat → Int64} (hd : 0 ≤ d)  (l5 : Int32) (l6 : Int32) (l7 : Int32) (S : amS) : AW X d am_m135 (wm S0 u) e 152 [(0, .ref 34), (5, .int l5), (6, .int l6), (7, .int l7)] [] S (g_135_152 l5 l6 l7 S) := by
  unfold g_135_152
  refine aw_iload at_135_152 rfl ?_
  refine aw_ic 5 at_135_154 ic_5 ?_
  refine aw_icmp_lt at_135_155 ?_ ?_
  · exact aw_sub (al_cons rfl (al_cons rfl (al_cons rfl al_nil))) (t_135_174 (by omega) l6 l7 S)
  · refine aw_aload at_135_158 rfl ?_
    refine aw_getf at_135_159 gf_901 ?_
    refine aw_aload at_135_162 rfl ?_
    refine aw_getf at_135_163 gf_927 ?_
    refine aw_ic 4 at_135_166 ic_4 ?_
    refine aw_iadd at_135_167 ?_
    refine aw_iald at_135_168 ai_35 ?_
    refine aw_iload at_135_169 rfl ?_
    refine aw_icmp_ne at_135_171 ?_ ?_
    · refine aw_ic 0 at_135_201 ic_0 ?_
      exact aw_rZ at_135_202 rfl (Or.inl rfl)
    · exact aw_sub (al_cons rfl (al_cons rfl (al_cons rfl al_nil))) (t_135_174 (by omega) l6 l7 S)
def g_135_123 (l4 : Int32) (l5 : Int32) (l6 : Int32) (l7 : Int32) (s0 : Int32) (S : amS) : amQ := if s0 = 0 then some (.inl (some (.int 0)), S) else if l7 < 4 then g_135_152 l5 l6 l7 S else az_ck ((S.1 34 27) + 3) 250 (if (S.1 35 ((S.1 34 27) + 3).toNatClampNeg) = l4 then g_135_152 l5 l6 l7 S else some (.inl (some (.int 0)), S))
theorem t_135_123 {X : amX} {d e : Nat} {S0 : amS} {u : Nat → Int64} (hd : 0 ≤ d)  (l4 : Int32) (l5 : Int32) (l6 : Int32) (l7 : Int32) (s0 : Int32) (S : amS) : AW X d am_m135 (wm S0 u) e 123 [(0, .ref 34), (4, .int l4), (5, .int l5), (6, .int l6), (7, .int l7)] [.int s0] S (g_135_123 l4 l5 l6 l7 s0 S) := by
  unfold g_135_123
  refine aw_istore at_135_123 (by decide) rfl rfl ?_
  refine aw_iload at_135_125 rfl ?_
  refine aw_if_eq at_135_127 ?_ ?_
  · refine aw_ic 0 at_135_201 ic_0 ?_
    exact aw_rZ at_135_202 rfl (Or.inl rfl)
  · refine aw_iload at_135_130 rfl ?_
    refine aw_ic 4 at_135_132 ic_4 ?_
    refine aw_icmp_lt at_135_133 ?_ ?_
    · exact aw_sub (al_cons rfl (al_cons rfl (al_cons rfl (al_cons rfl al_nil)))) (t_135_152 (by omega) l5 l6 l7 S)
    · refine aw_aload at_135_136 rfl ?_
      refine aw_getf at_135_137 gf_901 ?_
      refine aw_aload at_135_140 rfl ?_
      refine aw_getf at_135_141 gf_927 ?_
      refine aw_ic 3 at_135_144 ic_3 ?_
      refine aw_iadd at_135_145 ?_
      refine aw_iald at_135_146 ai_35 ?_
      refine aw_iload at_135_147 rfl ?_
      refine aw_icmp_ne at_135_149 ?_ ?_
      · refine aw_ic 0 at_135_201 ic_0 ?_
        exact aw_rZ at_135_202 rfl (Or.inl rfl)
      · exact aw_sub (al_cons rfl (al_cons rfl (al_cons rfl (al_cons rfl al_nil)))) (t_135_152 (by omega) l5 l6 l7 S)
def g_135_122 (l4 : Int32) (l5 : Int32) (l6 : Int32) (l7 : Int32) (S : amS) : amQ := g_135_123 l4 l5 l6 l7 0 S
theorem t_135_122 {X : amX} {d e : Nat} {S0 : amS} {u : Nat → Int64} (hd : 0 ≤ d)  (l4 : Int32) (l5 : Int32) (l6 : Int32) (l7 : Int32) (S : amS) : AW X d am_m135 (wm S0 u) e 122 [(0, .ref 34), (4, .int l4), (5, .int l5), (6, .int l6), (7, .int l7)] [] S (g_135_122 l4 l5 l6 l7 S) := by
  unfold g_135_122
  refine aw_ic 0 at_135_122 ic_0 ?_
  exact aw_sub (al_cons rfl (al_cons rfl (al_cons rfl (al_cons rfl (al_cons rfl al_nil))))) (t_135_123 (by omega) l4 l5 l6 l7 0 S)
def g_135_118 (l4 : Int32) (l5 : Int32) (l6 : Int32) (l7 : Int32) (S : amS) : amQ := g_135_123 l4 l5 l6 l7 1 S
theorem t_135_118 {X : amX} {d e : Nat} {S0 : amS} {u : Nat → Int64} (hd : 0 ≤ d)  (l4 : Int32) (l5 : Int32) (l6 : Int32) (l7 : Int32) (S : amS) : AW X d am_m135 (wm S0 u) e 118 [(0, .ref 34), (4, .int l4), (5, .int l5), (6, .int l6), (7, .int l7)] [] S (g_135_118 l4 l5 l6 l7 S) := by
  unfold g_135_118
  refine aw_ic 1 at_135_118 ic_1 ?_
  refine aw_goto at_135_119 ?_
  exact aw_sub (al_cons rfl (al_cons rfl (al_cons rfl (al_cons rfl (al_cons rfl al_nil))))) (t_135_123 (by omega) l4 l5 l6 l7 1 S)
def g_135_97 (l3 : Int32) (l4 : Int32) (l5 : Int32) (l6 : Int32) (l7 : Int32) (S : amS) : amQ := if l7 < 3 then g_135_118 l4 l5 l6 l7 S else az_ck ((S.1 34 27) + 2) 250 (if (S.1 35 ((S.1 34 27) + 2).toNatClampNeg) = l3 then g_135_118 l4 l5 l6 l7 S else g_135_122 l4 l5 l6 l7 S)
theorem t_135_97 {X : amX} {d e : Nat} {S0 : amS} {u : Nat → Int64} (hd : 0 ≤ d)  (l3 : Int32) (l4 : Int32) (l5 : Int32) (l6 : Int32) (l7 : Int32) (S : amS) : AW X d am_m135 (wm S0 u) e 97 [(0, .ref 34), (3, .int l3), (4, .int l4), (5, .int l5), (6, .int l6), (7, .int l7)] [] S (g_135_97 l3 l4 l5 l6 l7 S) := by
  unfold g_135_97
  refine aw_iload at_135_97 rfl ?_
  refine aw_ic 3 at_135_99 ic_3 ?_
  refine aw_icmp_lt at_135_100 ?_ ?_
  · exact aw_sub (al_cons rfl (al_cons rfl (al_cons rfl (al_cons rfl (al_cons rfl al_nil))))) (t_135_118 (by omega) l4 l5 l6 l7 S)
  · refine aw_aload at_135_103 rfl ?_
    refine aw_getf at_135_104 gf_901 ?_
    refine aw_aload at_135_107 rfl ?_
    refine aw_getf at_135_108 gf_927 ?_
    refine aw_ic 2 at_135_111 ic_2 ?_
    refine aw_iadd at_135_112 ?_
    refine aw_iald at_135_113 ai_35 ?_
    refine aw_iload at_135_114 rfl ?_
    refine aw_icmp_ne at_135_115 ?_ ?_
    · exact aw_sub (al_cons rfl (al_cons rfl (al_cons rfl (al_cons rfl (al_cons rfl al_nil))))) (t_135_122 (by omega) l4 l5 l6 l7 S)
    · exact aw_sub (al_cons rfl (al_cons rfl (al_cons rfl (al_cons rfl (al_cons rfl al_nil))))) (t_135_118 (by omega) l4 l5 l6 l7 S)
def g_135_45 (l1 : Int32) (l2 : Int32) (l3 : Int32) (l4 : Int32) (l5 : Int32) (l6 : Int32) (s0 : Int32) (S : amS) : amQ := if ((S.1 34 28) - (S.1 34 27)) = s0 then az_ck (S.1 34 27) 250 (if (S.1 35 (S.1 34 27).toNatClampNeg) = l1 then if s0 < 2 then g_135_97 l3 l4 l5 l6 s0 S else az_ck ((S.1 34 27) + 1) 250 (if (S.1 35 ((S.1 34 27) + 1).toNatClampNeg) = l2 then g_135_97 l3 l4 l5 l6 s0 S else g_135_122 l4 l5 l6 s0 S) else g_135_122 l4 l5 l6 s0 S) else some (.inl (some (.int 0)), S)
theorem t_135_45 {X : amX} {d e : Nat} {S0 : amS} {u : Nat → Int64} (hd : 0 ≤ d)  (l1 : Int32) (l2 : Int32) (l3 : Int32) (l4 : Int32) (l5 : Int32) (l6 : Int32) (s0 : Int32) (S : amS) : AW X d am_m135 (wm S0 u) e 45 [(0, .ref 34), (1, .int l1), (2, .int l2), (3, .int l3), (4, .int l4), (5, .int l5), (6, .int l6)] [.int s0] S (g_135_45 l1 l2 l3 l4 l5 l6 s0 S) := by
  unfold g_135_45
  refine aw_istore at_135_45 (by decide) rfl rfl ?_
  refine aw_aload at_135_47 rfl ?_
  refine aw_getf at_135_48 gf_928 ?_
  refine aw_aload at_135_51 rfl ?_
  refine aw_getf at_135_52 gf_927 ?_
  refine aw_isub at_135_55 ?_
  refine aw_iload at_135_56 rfl ?_
  refine aw_icmp_eq at_135_58 ?_ ?_
  · refine aw_aload at_135_63 rfl ?_
    refine aw_getf at_135_64 gf_901 ?_
    refine aw_aload at_135_67 rfl ?_
    refine aw_getf at_135_68 gf_927 ?_
    refine aw_iald at_135_71 ai_35 ?_
    refine aw_iload at_135_72 rfl ?_
    refine aw_icmp_ne at_135_73 ?_ ?_
    · exact aw_sub (al_cons rfl (al_cons rfl (al_cons rfl (al_cons rfl (al_cons rfl al_nil))))) (t_135_122 (by omega) l4 l5 l6 s0 S)
    · refine aw_iload at_135_76 rfl ?_
      refine aw_ic 2 at_135_78 ic_2 ?_
      refine aw_icmp_lt at_135_79 ?_ ?_
      · exact aw_sub (al_cons rfl (al_cons rfl (al_cons rfl (al_cons rfl (al_cons rfl (al_cons rfl al_nil)))))) (t_135_97 (by omega) l3 l4 l5 l6 s0 S)
      · refine aw_aload at_135_82 rfl ?_
        refine aw_getf at_135_83 gf_901 ?_
        refine aw_aload at_135_86 rfl ?_
        refine aw_getf at_135_87 gf_927 ?_
        refine aw_ic 1 at_135_90 ic_1 ?_
        refine aw_iadd at_135_91 ?_
        refine aw_iald at_135_92 ai_35 ?_
        refine aw_iload at_135_93 rfl ?_
        refine aw_icmp_ne at_135_94 ?_ ?_
        · exact aw_sub (al_cons rfl (al_cons rfl (al_cons rfl (al_cons rfl (al_cons rfl al_nil))))) (t_135_122 (by omega) l4 l5 l6 s0 S)
        · exact aw_sub (al_cons rfl (al_cons rfl (al_cons rfl (al_cons rfl (al_cons rfl (al_cons rfl al_nil)))))) (t_135_97 (by omega) l3 l4 l5 l6 s0 S)
  · refine aw_ic 0 at_135_61 ic_0 ?_
    exact aw_rZ at_135_62 rfl (Or.inl rfl)
def g_135 (l1 : Int32) (l2 : Int32) (l3 : Int32) (l4 : Int32) (l5 : Int32) (l6 : Int32) (S : amS) : amQ := if l6 = 0 then if l5 = 0 then if l4 = 0 then if l3 = 0 then if l2 = 0 then g_135_45 l1 l2 l3 l4 l5 l6 1 S else g_135_45 l1 l2 l3 l4 l5 l6 2 S else g_135_45 l1 l2 l3 l4 l5 l6 3 S else g_135_45 l1 l2 l3 l4 l5 l6 4 S else g_135_45 l1 l2 l3 l4 l5 l6 5 S else g_135_45 l1 l2 l3 l4 l5 l6 6 S
theorem t_135 {X : amX} {d e : Nat} {S0 : amS} {u : Nat → Int64} (hd : 0 ≤ d)  (l1 : Int32) (l2 : Int32) (l3 : Int32) (l4 : Int32) (l5 : Int32) (l6 : Int32) (S : amS) : AW X d am_m135 (wm S0 u) e 0 [(0, .ref 34), (1, .int l1), (2, .int l2), (3, .int l3), (4, .int l4), (5, .int l5), (6, .int l6)] [] S (g_135 l1 l2 l3 l4 l5 l6 S) := by
  unfold g_135
  refine aw_iload at_135_0 rfl ?_
  refine aw_if_eq at_135_2 ?_ ?_
  · refine aw_iload at_135_10 rfl ?_
    refine aw_if_eq at_135_12 ?_ ?_
    · refine aw_iload at_135_19 rfl ?_
      refine aw_if_eq at_135_21 ?_ ?_
      · refine aw_iload at_135_28 rfl ?_
        refine aw_if_eq at_135_29 ?_ ?_
        · refine aw_iload at_135_36 rfl ?_
          refine aw_if_eq at_135_37 ?_ ?_
          · refine aw_ic 1 at_135_44 ic_1 ?_
            exact aw_sub (al_cons rfl (al_cons rfl (al_cons rfl (al_cons rfl (al_cons rfl (al_cons rfl (al_cons rfl al_nil))))))) (t_135_45 (by omega) l1 l2 l3 l4 l5 l6 1 S)
          · refine aw_ic 2 at_135_40 ic_2 ?_
            refine aw_goto at_135_41 ?_
            exact aw_sub (al_cons rfl (al_cons rfl (al_cons rfl (al_cons rfl (al_cons rfl (al_cons rfl (al_cons rfl al_nil))))))) (t_135_45 (by omega) l1 l2 l3 l4 l5 l6 2 S)
        · refine aw_ic 3 at_135_32 ic_3 ?_
          refine aw_goto at_135_33 ?_
          exact aw_sub (al_cons rfl (al_cons rfl (al_cons rfl (al_cons rfl (al_cons rfl (al_cons rfl (al_cons rfl al_nil))))))) (t_135_45 (by omega) l1 l2 l3 l4 l5 l6 3 S)
      · refine aw_ic 4 at_135_24 ic_4 ?_
        refine aw_goto at_135_25 ?_
        exact aw_sub (al_cons rfl (al_cons rfl (al_cons rfl (al_cons rfl (al_cons rfl (al_cons rfl (al_cons rfl al_nil))))))) (t_135_45 (by omega) l1 l2 l3 l4 l5 l6 4 S)
    · refine aw_ic 5 at_135_15 ic_5 ?_
      refine aw_goto at_135_16 ?_
      exact aw_sub (al_cons rfl (al_cons rfl (al_cons rfl (al_cons rfl (al_cons rfl (al_cons rfl (al_cons rfl al_nil))))))) (t_135_45 (by omega) l1 l2 l3 l4 l5 l6 5 S)
  · refine aw_ic 6 at_135_5 ic_6 ?_
    refine aw_goto at_135_7 ?_
    exact aw_sub (al_cons rfl (al_cons rfl (al_cons rfl (al_cons rfl (al_cons rfl (al_cons rfl (al_cons rfl al_nil))))))) (t_135_45 (by omega) l1 l2 l3 l4 l5 l6 6 S)
theorem c_135 {X : amX} {d : Nat} {S0 : amS} {u : Nat → Int64} (hd : 1 ≤ d) (l1 : Int32) (l2 : Int32) (l3 : Int32) (l4 : Int32) (l5 : Int32) (l6 : Int32) (S : amS) : CW X d 135 [.ref 34, .int l1, .int l2, .int l3, .int l4, .int l5, .int l6] (wm S0 u) S (g_135 l1 l2 l3 l4 l5 l6 S) := cw_up (by omega) (fun d' h => by
  subst h
  exact cw_of rfl (by decide) (Nat.le_of_ble_eq_true rfl) rfl (fun e => t_135 (by omega) l1 l2 l3 l4 l5 l6 S))
/-! 136: ListDeskModel.isLetter()Z -/
theorem at_136_0 : am_at am_m136 0 = some (.aload 0, 1, 0) := rfl
theorem at_136_1 : am_at am_m136 1 = some (.getfield 928, 3, 148) := rfl
theorem at_136_4 : am_at am_m136 4 = some (.aload 0, 1, 0) := rfl
theorem at_136_5 : am_at am_m136 5 = some (.getfield 927, 3, 145) := rfl
theorem at_136_8 : am_at am_m136 8 = some (.isub, 1, 0) := rfl
theorem at_136_9 : am_at am_m136 9 = some (.iconst 1, 1, 0) := rfl
theorem at_136_10 : am_at am_m136 10 = some (.if_icmp .ne 36, 3, 0) := rfl
theorem at_136_13 : am_at am_m136 13 = some (.aload 0, 1, 0) := rfl
theorem at_136_14 : am_at am_m136 14 = some (.getfield 901, 3, 7) := rfl
theorem at_136_17 : am_at am_m136 17 = some (.aload 0, 1, 0) := rfl
theorem at_136_18 : am_at am_m136 18 = some (.getfield 927, 3, 145) := rfl
theorem at_136_21 : am_at am_m136 21 = some (.iaload, 1, 0) := rfl
theorem at_136_22 : am_at am_m136 22 = some (.iconst 97, 2, 1) := rfl
theorem at_136_24 : am_at am_m136 24 = some (.iconst 122, 2, 1) := rfl
theorem at_136_26 : am_at am_m136 26 = some (.invokestatic 129, 3, 116) := rfl
theorem at_136_29 : am_at am_m136 29 = some (.ifCond .eq 36, 3, 0) := rfl
theorem at_136_32 : am_at am_m136 32 = some (.iconst 1, 1, 0) := rfl
theorem at_136_33 : am_at am_m136 33 = some (.goto 37, 3, 0) := rfl
theorem at_136_36 : am_at am_m136 36 = some (.iconst 0, 1, 0) := rfl
theorem at_136_37 : am_at am_m136 37 = some (.ireturn, 1, 0) := rfl
def g_136 (S : amS) : amQ := if ((S.1 34 28) - (S.1 34 27)) = 1 then az_ck (S.1 34 27) 250 (az_bI (g_129 (S.1 35 (S.1 34 27).toNatClampNeg) 97 122 S) fun x1 S2 => if x1 = 0 then some (.inl (some (.int 0)), S2) else some (.inl (some (.int 1)), S2)) else some (.inl (some (.int 0)), S)
theorem t_136 {X : amX} {d e : Nat} {S0 : amS} {u : Nat → Int64} (hd : 1 ≤ d)  (S : amS) : AW X d am_m136 (wm S0 u) e 0 [(0, .ref 34)] [] S (g_136 S) := by
  unfold g_136
  refine aw_aload at_136_0 rfl ?_
  refine aw_getf at_136_1 gf_928 ?_
  refine aw_aload at_136_4 rfl ?_
  refine aw_getf at_136_5 gf_927 ?_
  refine aw_isub at_136_8 ?_
  refine aw_ic 1 at_136_9 ic_1 ?_
  refine aw_icmp_ne at_136_10 ?_ ?_
  · refine aw_ic 0 at_136_36 ic_0 ?_
    exact aw_rZ at_136_37 rfl (Or.inl rfl)
  · refine aw_aload at_136_13 rfl ?_
    refine aw_getf at_136_14 gf_901 ?_
    refine aw_aload at_136_17 rfl ?_
    refine aw_getf at_136_18 gf_927 ?_
    refine aw_iald at_136_21 ai_35 ?_
    refine aw_ic 97 at_136_22 ic_97 ?_
    refine aw_ic 122 at_136_24 ic_122 ?_
    refine aw_cI at_136_26 rfl (c_129 (by omega) _ _ _ _) (fun _ h => by cases h) rfl (fun x1 S2 => ?_)
    refine aw_if_eq at_136_29 ?_ ?_
    · refine aw_ic 0 at_136_36 ic_0 ?_
      exact aw_rZ at_136_37 rfl (Or.inl rfl)
    · refine aw_ic 1 at_136_32 ic_1 ?_
      refine aw_goto at_136_33 ?_
      exact aw_rZ at_136_37 rfl (Or.inr rfl)
theorem c_136 {X : amX} {d : Nat} {S0 : amS} {u : Nat → Int64} (hd : 2 ≤ d) (S : amS) : CW X d 136 [.ref 34] (wm S0 u) S (g_136 S) := cw_up (by omega) (fun d' h => by
  subst h
  exact cw_of rfl (by decide) (Nat.le_of_ble_eq_true rfl) rfl (fun e => t_136 (by omega) S))
/-! 137: ListDeskModel.node(III)I -/
theorem at_137_0 : am_at am_m137 0 = some (.aload 0, 1, 0) := rfl
theorem at_137_1 : am_at am_m137 1 = some (.getfield 908, 3, 17) := rfl
theorem at_137_4 : am_at am_m137 4 = some (.aload 0, 1, 0) := rfl
theorem at_137_5 : am_at am_m137 5 = some (.getfield 907, 3, 151) := rfl
theorem at_137_8 : am_at am_m137 8 = some (.iload 1, 1, 0) := rfl
theorem at_137_9 : am_at am_m137 9 = some (.iastore, 1, 0) := rfl
theorem at_137_10 : am_at am_m137 10 = some (.aload 0, 1, 0) := rfl
theorem at_137_11 : am_at am_m137 11 = some (.getfield 909, 3, 20) := rfl
theorem at_137_14 : am_at am_m137 14 = some (.aload 0, 1, 0) := rfl
theorem at_137_15 : am_at am_m137 15 = some (.getfield 907, 3, 151) := rfl
theorem at_137_18 : am_at am_m137 18 = some (.iload 2, 1, 0) := rfl
theorem at_137_19 : am_at am_m137 19 = some (.iastore, 1, 0) := rfl
theorem at_137_20 : am_at am_m137 20 = some (.aload 0, 1, 0) := rfl
theorem at_137_21 : am_at am_m137 21 = some (.getfield 910, 3, 23) := rfl
theorem at_137_24 : am_at am_m137 24 = some (.aload 0, 1, 0) := rfl
theorem at_137_25 : am_at am_m137 25 = some (.getfield 907, 3, 151) := rfl
theorem at_137_28 : am_at am_m137 28 = some (.iload 3, 1, 0) := rfl
theorem at_137_29 : am_at am_m137 29 = some (.iastore, 1, 0) := rfl
theorem at_137_30 : am_at am_m137 30 = some (.aload 0, 1, 0) := rfl
theorem at_137_31 : am_at am_m137 31 = some (.getfield 911, 3, 26) := rfl
theorem at_137_34 : am_at am_m137 34 = some (.aload 0, 1, 0) := rfl
theorem at_137_35 : am_at am_m137 35 = some (.getfield 907, 3, 151) := rfl
theorem at_137_38 : am_at am_m137 38 = some (.iconst (-1), 1, 0) := rfl
theorem at_137_39 : am_at am_m137 39 = some (.iastore, 1, 0) := rfl
theorem at_137_40 : am_at am_m137 40 = some (.aload 0, 1, 0) := rfl
theorem at_137_41 : am_at am_m137 41 = some (.getfield 912, 3, 29) := rfl
theorem at_137_44 : am_at am_m137 44 = some (.aload 0, 1, 0) := rfl
theorem at_137_45 : am_at am_m137 45 = some (.getfield 907, 3, 151) := rfl
theorem at_137_48 : am_at am_m137 48 = some (.iconst (-1), 1, 0) := rfl
theorem at_137_49 : am_at am_m137 49 = some (.iastore, 1, 0) := rfl
theorem at_137_50 : am_at am_m137 50 = some (.aload 0, 1, 0) := rfl
theorem at_137_51 : am_at am_m137 51 = some (.getfield 913, 3, 32) := rfl
theorem at_137_54 : am_at am_m137 54 = some (.aload 0, 1, 0) := rfl
theorem at_137_55 : am_at am_m137 55 = some (.getfield 907, 3, 151) := rfl
theorem at_137_58 : am_at am_m137 58 = some (.iconst (-1), 1, 0) := rfl
theorem at_137_59 : am_at am_m137 59 = some (.iastore, 1, 0) := rfl
theorem at_137_60 : am_at am_m137 60 = some (.aload 0, 1, 0) := rfl
theorem at_137_61 : am_at am_m137 61 = some (.getfield 914, 3, 35) := rfl
theorem at_137_64 : am_at am_m137 64 = some (.aload 0, 1, 0) := rfl
theorem at_137_65 : am_at am_m137 65 = some (.getfield 907, 3, 151) := rfl
theorem at_137_68 : am_at am_m137 68 = some (.iconst 0, 1, 0) := rfl
theorem at_137_69 : am_at am_m137 69 = some (.iastore, 1, 0) := rfl
theorem at_137_70 : am_at am_m137 70 = some (.aload 0, 1, 0) := rfl
theorem at_137_71 : am_at am_m137 71 = some (.getfield 916, 3, 41) := rfl
theorem at_137_74 : am_at am_m137 74 = some (.aload 0, 1, 0) := rfl
theorem at_137_75 : am_at am_m137 75 = some (.getfield 907, 3, 151) := rfl
theorem at_137_78 : am_at am_m137 78 = some (.iconst 0, 1, 0) := rfl
theorem at_137_79 : am_at am_m137 79 = some (.iastore, 1, 0) := rfl
theorem at_137_80 : am_at am_m137 80 = some (.aload 0, 1, 0) := rfl
theorem at_137_81 : am_at am_m137 81 = some (.getfield 917, 3, 44) := rfl
theorem at_137_84 : am_at am_m137 84 = some (.aload 0, 1, 0) := rfl
theorem at_137_85 : am_at am_m137 85 = some (.getfield 907, 3, 151) := rfl
theorem at_137_88 : am_at am_m137 88 = some (.iconst 0, 1, 0) := rfl
theorem at_137_89 : am_at am_m137 89 = some (.bastore, 1, 0) := rfl
theorem at_137_90 : am_at am_m137 90 = some (.aload 0, 1, 0) := rfl
theorem at_137_91 : am_at am_m137 91 = some (.dup, 1, 0) := rfl
theorem at_137_92 : am_at am_m137 92 = some (.getfield 907, 3, 151) := rfl
theorem at_137_95 : am_at am_m137 95 = some (.iconst 1, 1, 0) := rfl
theorem at_137_96 : am_at am_m137 96 = some (.iadd, 1, 0) := rfl
theorem at_137_97 : am_at am_m137 97 = some (.putfield 907, 3, 151) := rfl
theorem at_137_100 : am_at am_m137 100 = some (.aload 0, 1, 0) := rfl
theorem at_137_101 : am_at am_m137 101 = some (.getfield 907, 3, 151) := rfl
theorem at_137_104 : am_at am_m137 104 = some (.iconst 1, 1, 0) := rfl
theorem at_137_105 : am_at am_m137 105 = some (.isub, 1, 0) := rfl
theorem at_137_106 : am_at am_m137 106 = some (.ireturn, 1, 0) := rfl
def g_137 (l1 : Int32) (l2 : Int32) (l3 : Int32) (S : amS) : amQ := az_st (S.1 34 7) fun x2 => az_ck x2 256 (az_st (sI S 36 x2.toNatClampNeg l1) fun S3 => az_st (S3.1 34 7) fun x5 => az_ck x5 256 (az_st (sI S3 37 x5.toNatClampNeg l2) fun S6 => az_st (S6.1 34 7) fun x8 => az_ck x8 256 (az_st (sI S6 38 x8.toNatClampNeg l3) fun S9 => az_st (S9.1 34 7) fun x11 => az_ck x11 256 (az_st (sI S9 39 x11.toNatClampNeg ((-1))) fun S12 => az_st (S12.1 34 7) fun x14 => az_ck x14 256 (az_st (sI S12 40 x14.toNatClampNeg ((-1))) fun S15 => az_st (S15.1 34 7) fun x17 => az_ck x17 256 (az_st (sI S15 41 x17.toNatClampNeg ((-1))) fun S18 => az_st (S18.1 34 7) fun x20 => az_ck x20 256 (az_st (sI S18 42 x20.toNatClampNeg 0) fun S21 => az_st (S21.1 34 7) fun x23 => az_ck x23 256 (az_st (sI S21 44 x23.toNatClampNeg 0) fun S24 => az_st (S24.1 34 7) fun x26 => az_ck x26 256 (az_st (sI S24 45 x26.toNatClampNeg (vp_nar .boolean 0)) fun S27 => az_st (sI S27 34 7 ((S27.1 34 7) + 1)) fun S28 => some (.inl (some (.int ((S28.1 34 7) - 1))), S28))))))))))
theorem t_137 {X : amX} {d e : Nat} {S0 : amS} {u : Nat → Int64} (hd : 0 ≤ d)  (l1 : Int32) (l2 : Int32) (l3 : Int32) (S : amS) : AW X d am_m137 (wm S0 u) e 0 [(0, .ref 34), (1, .int l1), (2, .int l2), (3, .int l3)] [] S (g_137 l1 l2 l3 S) := by
  unfold g_137
  refine aw_aload at_137_0 rfl ?_
  refine aw_getf at_137_1 gf_908 ?_
  refine aw_aload at_137_4 rfl ?_
  refine aw_getf at_137_5 gf_907 ?_
  refine aw_iload at_137_8 rfl ?_
  refine aw_nameK (F := fun z => .int l1 :: .int z :: [.ref 36]) rfl (fun x2 => ?_)
  refine aw_iast at_137_9 ar_36 (as_36 _ _) (fun S3 => ?_)
  refine aw_aload at_137_10 rfl ?_
  refine aw_getf at_137_11 gf_909 ?_
  refine aw_aload at_137_14 rfl ?_
  refine aw_getf at_137_15 gf_907 ?_
  refine aw_iload at_137_18 rfl ?_
  refine aw_nameK (F := fun z => .int l2 :: .int z :: [.ref 37]) rfl (fun x5 => ?_)
  refine aw_iast at_137_19 ar_37 (as_37 _ _) (fun S6 => ?_)
  refine aw_aload at_137_20 rfl ?_
  refine aw_getf at_137_21 gf_910 ?_
  refine aw_aload at_137_24 rfl ?_
  refine aw_getf at_137_25 gf_907 ?_
  refine aw_iload at_137_28 rfl ?_
  refine aw_nameK (F := fun z => .int l3 :: .int z :: [.ref 38]) rfl (fun x8 => ?_)
  refine aw_iast at_137_29 ar_38 (as_38 _ _) (fun S9 => ?_)
  refine aw_aload at_137_30 rfl ?_
  refine aw_getf at_137_31 gf_911 ?_
  refine aw_aload at_137_34 rfl ?_
  refine aw_getf at_137_35 gf_907 ?_
  refine aw_ic (-1) at_137_38 ic_m1 ?_
  refine aw_nameK (F := fun z => .int ((-1)) :: .int z :: [.ref 39]) rfl (fun x11 => ?_)
  refine aw_iast at_137_39 ar_39 (as_39 _ _) (fun S12 => ?_)
  refine aw_aload at_137_40 rfl ?_
  refine aw_getf at_137_41 gf_912 ?_
  refine aw_aload at_137_44 rfl ?_
  refine aw_getf at_137_45 gf_907 ?_
  refine aw_ic (-1) at_137_48 ic_m1 ?_
  refine aw_nameK (F := fun z => .int ((-1)) :: .int z :: [.ref 40]) rfl (fun x14 => ?_)
  refine aw_iast at_137_49 ar_40 (as_40 _ _) (fun S15 => ?_)
  refine aw_aload at_137_50 rfl ?_
  refine aw_getf at_137_51 gf_913 ?_
  refine aw_aload at_137_54 rfl ?_
  refine aw_getf at_137_55 gf_907 ?_
  refine aw_ic (-1) at_137_58 ic_m1 ?_
  refine aw_nameK (F := fun z => .int ((-1)) :: .int z :: [.ref 41]) rfl (fun x17 => ?_)
  refine aw_iast at_137_59 ar_41 (as_41 _ _) (fun S18 => ?_)
  refine aw_aload at_137_60 rfl ?_
  refine aw_getf at_137_61 gf_914 ?_
  refine aw_aload at_137_64 rfl ?_
  refine aw_getf at_137_65 gf_907 ?_
  refine aw_ic 0 at_137_68 ic_0 ?_
  refine aw_nameK (F := fun z => .int 0 :: .int z :: [.ref 42]) rfl (fun x20 => ?_)
  refine aw_iast at_137_69 ar_42 (as_42 _ _) (fun S21 => ?_)
  refine aw_aload at_137_70 rfl ?_
  refine aw_getf at_137_71 gf_916 ?_
  refine aw_aload at_137_74 rfl ?_
  refine aw_getf at_137_75 gf_907 ?_
  refine aw_ic 0 at_137_78 ic_0 ?_
  refine aw_nameK (F := fun z => .int 0 :: .int z :: [.ref 44]) rfl (fun x23 => ?_)
  refine aw_iast at_137_79 ar_44 (as_44 _ _) (fun S24 => ?_)
  refine aw_aload at_137_80 rfl ?_
  refine aw_getf at_137_81 gf_917 ?_
  refine aw_aload at_137_84 rfl ?_
  refine aw_getf at_137_85 gf_907 ?_
  refine aw_ic 0 at_137_88 ic_0 ?_
  refine aw_nameK (F := fun z => .int 0 :: .int z :: [.ref 45]) rfl (fun x26 => ?_)
  refine aw_zast at_137_89 ar_45 (as_45 _ _) (fun S27 => ?_)
  refine aw_aload at_137_90 rfl ?_
  refine aw_dupA at_137_91 ?_
  refine aw_getf at_137_92 gf_907 ?_
  refine aw_ic 1 at_137_95 ic_1 ?_
  refine aw_iadd at_137_96 ?_
  refine aw_putf at_137_97 (pf_907 _) (fun S28 => ?_)
  refine aw_aload at_137_100 rfl ?_
  refine aw_getf at_137_101 gf_907 ?_
  refine aw_ic 1 at_137_104 ic_1 ?_
  refine aw_isub at_137_105 ?_
  exact aw_rI at_137_106 rfl
theorem c_137 {X : amX} {d : Nat} {S0 : amS} {u : Nat → Int64} (hd : 1 ≤ d) (l1 : Int32) (l2 : Int32) (l3 : Int32) (S : amS) : CW X d 137 [.ref 34, .int l1, .int l2, .int l3] (wm S0 u) S (g_137 l1 l2 l3 S) := cw_up (by omega) (fun d' h => by
  subst h
  exact cw_of rfl (by decide) (Nat.le_of_ble_eq_true rfl) rfl (fun e => t_137 (by omega) l1 l2 l3 S))
/-! 138: ListDeskModel.hang(II)V -/
theorem at_138_0 : am_at am_m138 0 = some (.aload 0, 1, 0) := rfl
theorem at_138_1 : am_at am_m138 1 = some (.getfield 914, 3, 35) := rfl
theorem at_138_4 : am_at am_m138 4 = some (.iload 1, 1, 0) := rfl
theorem at_138_5 : am_at am_m138 5 = some (.iaload, 1, 0) := rfl
theorem at_138_6 : am_at am_m138 6 = some (.ifCond .ne 19, 3, 0) := rfl
theorem at_138_9 : am_at am_m138 9 = some (.aload 0, 1, 0) := rfl
theorem at_138_10 : am_at am_m138 10 = some (.getfield 911, 3, 26) := rfl
theorem at_138_13 : am_at am_m138 13 = some (.iload 1, 1, 0) := rfl
theorem at_138_14 : am_at am_m138 14 = some (.iload 2, 1, 0) := rfl
theorem at_138_15 : am_at am_m138 15 = some (.iastore, 1, 0) := rfl
theorem at_138_16 : am_at am_m138 16 = some (.goto 31, 3, 0) := rfl
theorem at_138_19 : am_at am_m138 19 = some (.aload 0, 1, 0) := rfl
theorem at_138_20 : am_at am_m138 20 = some (.getfield 913, 3, 32) := rfl
theorem at_138_23 : am_at am_m138 23 = some (.aload 0, 1, 0) := rfl
theorem at_138_24 : am_at am_m138 24 = some (.getfield 912, 3, 29) := rfl
theorem at_138_27 : am_at am_m138 27 = some (.iload 1, 1, 0) := rfl
theorem at_138_28 : am_at am_m138 28 = some (.iaload, 1, 0) := rfl
theorem at_138_29 : am_at am_m138 29 = some (.iload 2, 1, 0) := rfl
theorem at_138_30 : am_at am_m138 30 = some (.iastore, 1, 0) := rfl
theorem at_138_31 : am_at am_m138 31 = some (.aload 0, 1, 0) := rfl
theorem at_138_32 : am_at am_m138 32 = some (.getfield 912, 3, 29) := rfl
theorem at_138_35 : am_at am_m138 35 = some (.iload 1, 1, 0) := rfl
theorem at_138_36 : am_at am_m138 36 = some (.iload 2, 1, 0) := rfl
theorem at_138_37 : am_at am_m138 37 = some (.iastore, 1, 0) := rfl
theorem at_138_38 : am_at am_m138 38 = some (.aload 0, 1, 0) := rfl
theorem at_138_39 : am_at am_m138 39 = some (.getfield 914, 3, 35) := rfl
theorem at_138_42 : am_at am_m138 42 = some (.iload 1, 1, 0) := rfl
theorem at_138_43 : am_at am_m138 43 = some (.dup2, 1, 0) := rfl
theorem at_138_44 : am_at am_m138 44 = some (.iaload, 1, 0) := rfl
theorem at_138_45 : am_at am_m138 45 = some (.iconst 1, 1, 0) := rfl
theorem at_138_46 : am_at am_m138 46 = some (.iadd, 1, 0) := rfl
theorem at_138_47 : am_at am_m138 47 = some (.iastore, 1, 0) := rfl
theorem at_138_48 : am_at am_m138 48 = some (.return_, 1, 0) := rfl
def g_138_31 (l1 : Int32) (l2 : Int32) (S : amS) : amQ := az_ck l1 256 (az_st (sI S 40 l1.toNatClampNeg l2) fun S1 => az_ck l1 256 (az_ck l1 256 (az_st (sI S1 42 l1.toNatClampNeg ((S1.1 42 l1.toNatClampNeg) + 1)) fun S2 => some (.inl none, S2))))
theorem t_138_31 {X : amX} {d e : Nat} {S0 : amS} {u : Nat → Int64} (hd : 0 ≤ d)  (l1 : Int32) (l2 : Int32) (S : amS) : AW X d am_m138 (wm S0 u) e 31 [(0, .ref 34), (1, .int l1), (2, .int l2)] [] S (g_138_31 l1 l2 S) := by
  unfold g_138_31
  refine aw_aload at_138_31 rfl ?_
  refine aw_getf at_138_32 gf_912 ?_
  refine aw_iload at_138_35 rfl ?_
  refine aw_iload at_138_36 rfl ?_
  refine aw_iast at_138_37 ar_40 (as_40 _ _) (fun S1 => ?_)
  refine aw_aload at_138_38 rfl ?_
  refine aw_getf at_138_39 gf_914 ?_
  refine aw_iload at_138_42 rfl ?_
  refine aw_dup2IA at_138_43 ?_
  refine aw_iald at_138_44 ai_42 ?_
  refine aw_ic 1 at_138_45 ic_1 ?_
  refine aw_iadd at_138_46 ?_
  refine aw_iast at_138_47 ar_42 (as_42 _ _) (fun S2 => ?_)
  exact aw_rV at_138_48 rfl
def g_138 (l1 : Int32) (l2 : Int32) (S : amS) : amQ := az_ck l1 256 (if (S.1 42 l1.toNatClampNeg) = 0 then az_ck l1 256 (az_st (sI S 39 l1.toNatClampNeg l2) fun S4 => g_138_31 l1 l2 S4) else az_ck l1 256 (az_st (S.1 40 l1.toNatClampNeg) fun x2 => az_ck x2 256 (az_st (sI S 41 x2.toNatClampNeg l2) fun S3 => g_138_31 l1 l2 S3)))
theorem t_138 {X : amX} {d e : Nat} {S0 : amS} {u : Nat → Int64} (hd : 0 ≤ d)  (l1 : Int32) (l2 : Int32) (S : amS) : AW X d am_m138 (wm S0 u) e 0 [(0, .ref 34), (1, .int l1), (2, .int l2)] [] S (g_138 l1 l2 S) := by
  unfold g_138
  refine aw_aload at_138_0 rfl ?_
  refine aw_getf at_138_1 gf_914 ?_
  refine aw_iload at_138_4 rfl ?_
  refine aw_iald at_138_5 ai_42 ?_
  refine aw_if_ne at_138_6 ?_ ?_
  · refine aw_aload at_138_19 rfl ?_
    refine aw_getf at_138_20 gf_913 ?_
    refine aw_aload at_138_23 rfl ?_
    refine aw_getf at_138_24 gf_912 ?_
    refine aw_iload at_138_27 rfl ?_
    refine aw_iald at_138_28 ai_40 ?_
    refine aw_iload at_138_29 rfl ?_
    refine aw_nameK (F := fun z => .int l2 :: .int z :: [.ref 41]) rfl (fun x2 => ?_)
    refine aw_iast at_138_30 ar_41 (as_41 _ _) (fun S3 => ?_)
    exact aw_sub (al_cons rfl (al_cons rfl (al_cons rfl al_nil))) (t_138_31 (by omega) l1 l2 S3)
  · refine aw_aload at_138_9 rfl ?_
    refine aw_getf at_138_10 gf_911 ?_
    refine aw_iload at_138_13 rfl ?_
    refine aw_iload at_138_14 rfl ?_
    refine aw_iast at_138_15 ar_39 (as_39 _ _) (fun S4 => ?_)
    refine aw_goto at_138_16 ?_
    exact aw_sub (al_cons rfl (al_cons rfl (al_cons rfl al_nil))) (t_138_31 (by omega) l1 l2 S4)
theorem c_138 {X : amX} {d : Nat} {S0 : amS} {u : Nat → Int64} (hd : 1 ≤ d) (l1 : Int32) (l2 : Int32) (S : amS) : CW X d 138 [.ref 34, .int l1, .int l2] (wm S0 u) S (g_138 l1 l2 S) := cw_up (by omega) (fun d' h => by
  subst h
  exact cw_of rfl (by decide) (Nat.le_of_ble_eq_true rfl) rfl (fun e => t_138 (by omega) l1 l2 S))
/-! 139: ListDeskModel.lookUp(I)I -/
theorem at_139_0 : am_at am_m139 0 = some (.aload 0, 1, 0) := rfl
theorem at_139_1 : am_at am_m139 1 = some (.getfield 926, 3, 154) := rfl
theorem at_139_4 : am_at am_m139 4 = some (.iconst 1, 1, 0) := rfl
theorem at_139_5 : am_at am_m139 5 = some (.isub, 1, 0) := rfl
theorem at_139_6 : am_at am_m139 6 = some (.istore 2, 1, 0) := rfl
theorem at_139_7 : am_at am_m139 7 = some (.iload 2, 1, 0) := rfl
theorem at_139_8 : am_at am_m139 8 = some (.ifCond .lt 34, 3, 0) := rfl
theorem at_139_11 : am_at am_m139 11 = some (.aload 0, 1, 0) := rfl
theorem at_139_12 : am_at am_m139 12 = some (.getfield 924, 3, 60) := rfl
theorem at_139_15 : am_at am_m139 15 = some (.iload 2, 1, 0) := rfl
theorem at_139_16 : am_at am_m139 16 = some (.iaload, 1, 0) := rfl
theorem at_139_17 : am_at am_m139 17 = some (.iload 1, 1, 0) := rfl
theorem at_139_18 : am_at am_m139 18 = some (.if_icmp .ne 28, 3, 0) := rfl
theorem at_139_21 : am_at am_m139 21 = some (.aload 0, 1, 0) := rfl
theorem at_139_22 : am_at am_m139 22 = some (.getfield 925, 3, 63) := rfl
theorem at_139_25 : am_at am_m139 25 = some (.iload 2, 1, 0) := rfl
theorem at_139_26 : am_at am_m139 26 = some (.iaload, 1, 0) := rfl
theorem at_139_27 : am_at am_m139 27 = some (.ireturn, 1, 0) := rfl
theorem at_139_28 : am_at am_m139 28 = some (.iinc 2 (-1), 3, 0) := rfl
theorem at_139_31 : am_at am_m139 31 = some (.goto 7, 3, 0) := rfl
theorem at_139_34 : am_at am_m139 34 = some (.iconst (-1), 1, 0) := rfl
theorem at_139_35 : am_at am_m139 35 = some (.ireturn, 1, 0) := rfl
def h_139_7 (n : Nat) (H7 : Int32 → Int32 → amS → amQ) (l1 : Int32) (l2 : Int32) (S : amS) : amQ := if l2 < 0 then some (.inl (some (.int ((-1)))), S) else az_ck l2 256 (if (S.1 50 l2.toNatClampNeg) = l1 then az_ck l2 256 (some (.inl (some (.int (S.1 51 l2.toNatClampNeg))), S)) else H7 l1 (l2 + (-1)) S)
def g_139_7 : Nat → Int32 → Int32 → amS → amQ
  | 0 => fun _ _ _ => none
  | n + 1 => h_139_7 n (g_139_7 n)
theorem th_139_7 {X : amX} {d e : Nat} {S0 : amS} {u : Nat → Int64} {H7 : Int32 → Int32 → amS → amQ} (hd : 0 ≤ d) (n : Nat) (hH7 : ∀ (l1 : Int32) (l2 : Int32) (S : amS), AW X d am_m139 (wm S0 u) e 7 [(0, .ref 34), (1, .int l1), (2, .int l2)] [] S (H7 l1 l2 S)) (l1 : Int32) (l2 : Int32)  (S : amS) : AW X d am_m139 (wm S0 u) e 7 [(0, .ref 34), (1, .int l1), (2, .int l2)] [] S (h_139_7 n H7 l1 l2 S) := by
  unfold h_139_7
  refine aw_iload at_139_7 rfl ?_
  refine aw_if_lt at_139_8 ?_ ?_
  · refine aw_ic (-1) at_139_34 ic_m1 ?_
    exact aw_rI at_139_35 rfl
  · refine aw_aload at_139_11 rfl ?_
    refine aw_getf at_139_12 gf_924 ?_
    refine aw_iload at_139_15 rfl ?_
    refine aw_iald at_139_16 ai_50 ?_
    refine aw_iload at_139_17 rfl ?_
    refine aw_icmp_ne at_139_18 ?_ ?_
    · refine aw_iinc at_139_28 rfl (by decide) rfl ic_m1 rfl ?_
      refine aw_goto at_139_31 ?_
      exact aw_sub (al_cons rfl (al_cons rfl (al_cons rfl al_nil))) (hH7 l1 (l2 + (-1)) S)
    · refine aw_aload at_139_21 rfl ?_
      refine aw_getf at_139_22 gf_925 ?_
      refine aw_iload at_139_25 rfl ?_
      refine aw_iald at_139_26 ai_51 ?_
      exact aw_rI at_139_27 rfl
theorem t_139_7 {X : amX} {d e : Nat} {S0 : amS} {u : Nat → Int64} (hd : 0 ≤ d) : ∀ (n : Nat)  (l1 : Int32) (l2 : Int32) (S : amS), AW X d am_m139 (wm S0 u) e 7 [(0, .ref 34), (1, .int l1), (2, .int l2)] [] S (g_139_7 n l1 l2 S)
  | 0, _, _, _ => aw_none
  | n + 1, l1, l2, S => th_139_7 hd n (t_139_7 hd n) l1 l2 S
def g_139 (n : Nat) (l1 : Int32) (S : amS) : amQ := az_st ((S.1 34 26) - 1) fun x1 => g_139_7 n l1 x1 S
theorem t_139 {X : amX} {d e : Nat} {S0 : amS} {u : Nat → Int64} (hd : 0 ≤ d) (n : Nat)  (l1 : Int32) (S : amS) : AW X d am_m139 (wm S0 u) e 0 [(0, .ref 34), (1, .int l1)] [] S (g_139 n l1 S) := by
  unfold g_139
  refine aw_aload at_139_0 rfl ?_
  refine aw_getf at_139_1 gf_926 ?_
  refine aw_ic 1 at_139_4 ic_1 ?_
  refine aw_isub at_139_5 ?_
  refine aw_nameI (fun x1 => ?_)
  refine aw_istore at_139_6 (by decide) rfl rfl ?_
  exact aw_sub (al_cons rfl (al_cons rfl (al_cons rfl al_nil))) (t_139_7 (by omega) n l1 x1 S)
theorem c_139 {X : amX} {d : Nat} {S0 : amS} {u : Nat → Int64} (hd : 1 ≤ d) (n : Nat) (l1 : Int32) (S : amS) : CW X d 139 [.ref 34, .int l1] (wm S0 u) S (g_139 n l1 S) := cw_up (by omega) (fun d' h => by
  subst h
  exact cw_of rfl (by decide) (Nat.le_of_ble_eq_true rfl) rfl (fun e => t_139 (by omega) n l1 S))
/-! 140: ListDeskModel.tell(I)V -/
theorem at_140_0 : am_at am_m140 0 = some (.aload 0, 1, 0) := rfl
theorem at_140_1 : am_at am_m140 1 = some (.invokevirtual 134, 3, 157) := rfl
theorem at_140_4 : am_at am_m140 4 = some (.aload 0, 1, 0) := rfl
theorem at_140_5 : am_at am_m140 5 = some (.invokevirtual 136, 3, 160) := rfl
theorem at_140_8 : am_at am_m140 8 = some (.ifCond .eq 25, 3, 0) := rfl
theorem at_140_11 : am_at am_m140 11 = some (.aload 0, 1, 0) := rfl
theorem at_140_12 : am_at am_m140 12 = some (.getfield 916, 3, 41) := rfl
theorem at_140_15 : am_at am_m140 15 = some (.iload 1, 1, 0) := rfl
theorem at_140_16 : am_at am_m140 16 = some (.iaload, 1, 0) := rfl
theorem at_140_17 : am_at am_m140 17 = some (.iconst 4, 1, 0) := rfl
theorem at_140_18 : am_at am_m140 18 = some (.if_icmp .ge 25, 3, 0) := rfl
theorem at_140_21 : am_at am_m140 21 = some (.iconst 1, 1, 0) := rfl
theorem at_140_22 : am_at am_m140 22 = some (.goto 26, 3, 0) := rfl
theorem at_140_25 : am_at am_m140 25 = some (.iconst 0, 1, 0) := rfl
theorem at_140_26 : am_at am_m140 26 = some (.istore 2, 1, 0) := rfl
theorem at_140_27 : am_at am_m140 27 = some (.iconst 0, 1, 0) := rfl
theorem at_140_28 : am_at am_m140 28 = some (.istore 3, 1, 0) := rfl
theorem at_140_29 : am_at am_m140 29 = some (.iload 3, 1, 0) := rfl
theorem at_140_30 : am_at am_m140 30 = some (.aload 0, 1, 0) := rfl
theorem at_140_31 : am_at am_m140 31 = some (.getfield 916, 3, 41) := rfl
theorem at_140_34 : am_at am_m140 34 = some (.iload 1, 1, 0) := rfl
theorem at_140_35 : am_at am_m140 35 = some (.iaload, 1, 0) := rfl
theorem at_140_36 : am_at am_m140 36 = some (.if_icmp .ge 77, 3, 0) := rfl
theorem at_140_39 : am_at am_m140 39 = some (.iload 2, 1, 0) := rfl
theorem at_140_40 : am_at am_m140 40 = some (.ifCond .eq 77, 3, 0) := rfl
theorem at_140_43 : am_at am_m140 43 = some (.aload 0, 1, 0) := rfl
theorem at_140_44 : am_at am_m140 44 = some (.getfield 924, 3, 60) := rfl
theorem at_140_47 : am_at am_m140 47 = some (.iconst 240, 3, 2) := rfl
theorem at_140_50 : am_at am_m140 50 = some (.iload 3, 1, 0) := rfl
theorem at_140_51 : am_at am_m140 51 = some (.iadd, 1, 0) := rfl
theorem at_140_52 : am_at am_m140 52 = some (.iaload, 1, 0) := rfl
theorem at_140_53 : am_at am_m140 53 = some (.aload 0, 1, 0) := rfl
theorem at_140_54 : am_at am_m140 54 = some (.getfield 901, 3, 7) := rfl
theorem at_140_57 : am_at am_m140 57 = some (.aload 0, 1, 0) := rfl
theorem at_140_58 : am_at am_m140 58 = some (.getfield 927, 3, 145) := rfl
theorem at_140_61 : am_at am_m140 61 = some (.iaload, 1, 0) := rfl
theorem at_140_62 : am_at am_m140 62 = some (.if_icmp .eq 69, 3, 0) := rfl
theorem at_140_65 : am_at am_m140 65 = some (.iconst 1, 1, 0) := rfl
theorem at_140_66 : am_at am_m140 66 = some (.goto 70, 3, 0) := rfl
theorem at_140_69 : am_at am_m140 69 = some (.iconst 0, 1, 0) := rfl
theorem at_140_70 : am_at am_m140 70 = some (.istore 2, 1, 0) := rfl
theorem at_140_71 : am_at am_m140 71 = some (.iinc 3 1, 3, 0) := rfl
theorem at_140_74 : am_at am_m140 74 = some (.goto 29, 3, 0) := rfl
theorem at_140_77 : am_at am_m140 77 = some (.iload 2, 1, 0) := rfl
theorem at_140_78 : am_at am_m140 78 = some (.ifCond .ne 90, 3, 0) := rfl
theorem at_140_81 : am_at am_m140 81 = some (.aload 0, 1, 0) := rfl
theorem at_140_82 : am_at am_m140 82 = some (.aload 0, 1, 0) := rfl
theorem at_140_83 : am_at am_m140 83 = some (.getfield 927, 3, 145) := rfl
theorem at_140_86 : am_at am_m140 86 = some (.invokevirtual 131, 3, 141) := rfl
theorem at_140_89 : am_at am_m140 89 = some (.return_, 1, 0) := rfl
theorem at_140_90 : am_at am_m140 90 = some (.aload 0, 1, 0) := rfl
theorem at_140_91 : am_at am_m140 91 = some (.getfield 924, 3, 60) := rfl
theorem at_140_94 : am_at am_m140 94 = some (.iconst 240, 3, 2) := rfl
theorem at_140_97 : am_at am_m140 97 = some (.aload 0, 1, 0) := rfl
theorem at_140_98 : am_at am_m140 98 = some (.getfield 916, 3, 41) := rfl
theorem at_140_101 : am_at am_m140 101 = some (.iload 1, 1, 0) := rfl
theorem at_140_102 : am_at am_m140 102 = some (.iaload, 1, 0) := rfl
theorem at_140_103 : am_at am_m140 103 = some (.iadd, 1, 0) := rfl
theorem at_140_104 : am_at am_m140 104 = some (.aload 0, 1, 0) := rfl
theorem at_140_105 : am_at am_m140 105 = some (.getfield 901, 3, 7) := rfl
theorem at_140_108 : am_at am_m140 108 = some (.aload 0, 1, 0) := rfl
theorem at_140_109 : am_at am_m140 109 = some (.getfield 927, 3, 145) := rfl
theorem at_140_112 : am_at am_m140 112 = some (.iaload, 1, 0) := rfl
theorem at_140_113 : am_at am_m140 113 = some (.iastore, 1, 0) := rfl
theorem at_140_114 : am_at am_m140 114 = some (.aload 0, 1, 0) := rfl
theorem at_140_115 : am_at am_m140 115 = some (.getfield 915, 3, 38) := rfl
theorem at_140_118 : am_at am_m140 118 = some (.iconst 4, 1, 0) := rfl
theorem at_140_119 : am_at am_m140 119 = some (.iload 1, 1, 0) := rfl
theorem at_140_120 : am_at am_m140 120 = some (.imul, 1, 0) := rfl
theorem at_140_121 : am_at am_m140 121 = some (.aload 0, 1, 0) := rfl
theorem at_140_122 : am_at am_m140 122 = some (.getfield 916, 3, 41) := rfl
theorem at_140_125 : am_at am_m140 125 = some (.iload 1, 1, 0) := rfl
theorem at_140_126 : am_at am_m140 126 = some (.iaload, 1, 0) := rfl
theorem at_140_127 : am_at am_m140 127 = some (.iadd, 1, 0) := rfl
theorem at_140_128 : am_at am_m140 128 = some (.aload 0, 1, 0) := rfl
theorem at_140_129 : am_at am_m140 129 = some (.getfield 919, 3, 164) := rfl
theorem at_140_132 : am_at am_m140 132 = some (.iastore, 1, 0) := rfl
theorem at_140_133 : am_at am_m140 133 = some (.aload 0, 1, 0) := rfl
theorem at_140_134 : am_at am_m140 134 = some (.getfield 918, 3, 48) := rfl
theorem at_140_137 : am_at am_m140 137 = some (.aload 0, 1, 0) := rfl
theorem at_140_138 : am_at am_m140 138 = some (.getfield 919, 3, 164) := rfl
theorem at_140_141 : am_at am_m140 141 = some (.iconst 0, 1, 0) := rfl
theorem at_140_142 : am_at am_m140 142 = some (.bastore, 1, 0) := rfl
theorem at_140_143 : am_at am_m140 143 = some (.aload 0, 1, 0) := rfl
theorem at_140_144 : am_at am_m140 144 = some (.dup, 1, 0) := rfl
theorem at_140_145 : am_at am_m140 145 = some (.getfield 919, 3, 164) := rfl
theorem at_140_148 : am_at am_m140 148 = some (.iconst 1, 1, 0) := rfl
theorem at_140_149 : am_at am_m140 149 = some (.iadd, 1, 0) := rfl
theorem at_140_150 : am_at am_m140 150 = some (.putfield 919, 3, 164) := rfl
theorem at_140_153 : am_at am_m140 153 = some (.aload 0, 1, 0) := rfl
theorem at_140_154 : am_at am_m140 154 = some (.getfield 916, 3, 41) := rfl
theorem at_140_157 : am_at am_m140 157 = some (.iload 1, 1, 0) := rfl
theorem at_140_158 : am_at am_m140 158 = some (.dup2, 1, 0) := rfl
theorem at_140_159 : am_at am_m140 159 = some (.iaload, 1, 0) := rfl
theorem at_140_160 : am_at am_m140 160 = some (.iconst 1, 1, 0) := rfl
theorem at_140_161 : am_at am_m140 161 = some (.iadd, 1, 0) := rfl
theorem at_140_162 : am_at am_m140 162 = some (.iastore, 1, 0) := rfl
theorem at_140_163 : am_at am_m140 163 = some (.aload 0, 1, 0) := rfl
theorem at_140_164 : am_at am_m140 164 = some (.getfield 957, 3, 110) := rfl
theorem at_140_167 : am_at am_m140 167 = some (.iconst 4, 1, 0) := rfl
theorem at_140_168 : am_at am_m140 168 = some (.aload 0, 1, 0) := rfl
theorem at_140_169 : am_at am_m140 169 = some (.getfield 923, 3, 167) := rfl
theorem at_140_172 : am_at am_m140 172 = some (.imul, 1, 0) := rfl
theorem at_140_173 : am_at am_m140 173 = some (.aload 0, 1, 0) := rfl
theorem at_140_174 : am_at am_m140 174 = some (.getfield 916, 3, 41) := rfl
theorem at_140_177 : am_at am_m140 177 = some (.iload 1, 1, 0) := rfl
theorem at_140_178 : am_at am_m140 178 = some (.iaload, 1, 0) := rfl
theorem at_140_179 : am_at am_m140 179 = some (.iadd, 1, 0) := rfl
theorem at_140_180 : am_at am_m140 180 = some (.iconst 1, 1, 0) := rfl
theorem at_140_181 : am_at am_m140 181 = some (.isub, 1, 0) := rfl
theorem at_140_182 : am_at am_m140 182 = some (.aload 0, 1, 0) := rfl
theorem at_140_183 : am_at am_m140 183 = some (.getfield 901, 3, 7) := rfl
theorem at_140_186 : am_at am_m140 186 = some (.aload 0, 1, 0) := rfl
theorem at_140_187 : am_at am_m140 187 = some (.getfield 927, 3, 145) := rfl
theorem at_140_190 : am_at am_m140 190 = some (.iaload, 1, 0) := rfl
theorem at_140_191 : am_at am_m140 191 = some (.iastore, 1, 0) := rfl
theorem at_140_192 : am_at am_m140 192 = some (.return_, 1, 0) := rfl
def g_140_77 (n : Nat) (l1 : Int32) (l2 : Int32) (S : amS) : amQ := if l2 = 0 then az_bV (g_131 (S.1 34 27) S) fun S15 => some (.inl none, S15) else az_ck l1 256 (az_ck (S.1 34 27) 250 (az_st (240 + (S.1 44 l1.toNatClampNeg)) fun x2 => az_ck x2 256 (az_st (sI S 50 x2.toNatClampNeg (S.1 35 (S.1 34 27).toNatClampNeg)) fun S3 => az_ck l1 256 (az_st ((4 * l1) + (S3.1 44 l1.toNatClampNeg)) fun x5 => az_ck x5 1024 (az_st (sI S3 43 x5.toNatClampNeg (S3.1 34 19)) fun S6 => az_st (S6.1 34 19) fun x8 => az_ck x8 256 (az_st (sI S6 46 x8.toNatClampNeg (vp_nar .boolean 0)) fun S9 => az_st (sI S9 34 19 ((S9.1 34 19) + 1)) fun S10 => az_ck l1 256 (az_ck l1 256 (az_st (sI S10 44 l1.toNatClampNeg ((S10.1 44 l1.toNatClampNeg) + 1)) fun S11 => az_ck l1 256 (az_ck (S11.1 34 27) 250 (az_st (((4 * (S11.1 34 23)) + (S11.1 44 l1.toNatClampNeg)) - 1) fun x13 => az_ck x13 104 (az_st (sI S11 66 x13.toNatClampNeg (S11.1 35 (S11.1 34 27).toNatClampNeg)) fun S14 => some (.inl none, S14))))))))))))
theorem t_140_77 {X : amX} {d e : Nat} {S0 : amS} {u : Nat → Int64} (hd : 2 ≤ d) (n : Nat)  (l1 : Int32) (l2 : Int32) (S : amS) : AW X d am_m140 (wm S0 u) e 77 [(0, .ref 34), (1, .int l1), (2, .int l2)] [] S (g_140_77 n l1 l2 S) := by
  unfold g_140_77
  refine aw_iload at_140_77 rfl ?_
  refine aw_if_ne at_140_78 ?_ ?_
  · refine aw_aload at_140_90 rfl ?_
    refine aw_getf at_140_91 gf_924 ?_
    refine aw_ic 240 at_140_94 ic_240 ?_
    refine aw_aload at_140_97 rfl ?_
    refine aw_getf at_140_98 gf_916 ?_
    refine aw_iload at_140_101 rfl ?_
    refine aw_iald at_140_102 ai_44 ?_
    refine aw_iadd at_140_103 ?_
    refine aw_aload at_140_104 rfl ?_
    refine aw_getf at_140_105 gf_901 ?_
    refine aw_aload at_140_108 rfl ?_
    refine aw_getf at_140_109 gf_927 ?_
    refine aw_iald at_140_112 ai_35 ?_
    refine aw_nameK (F := fun z => .int (S.1 35 (S.1 34 27).toNatClampNeg) :: .int z :: [.ref 50]) rfl (fun x2 => ?_)
    refine aw_iast at_140_113 ar_50 (as_50 _ _) (fun S3 => ?_)
    refine aw_aload at_140_114 rfl ?_
    refine aw_getf at_140_115 gf_915 ?_
    refine aw_ic 4 at_140_118 ic_4 ?_
    refine aw_iload at_140_119 rfl ?_
    refine aw_imul at_140_120 ?_
    refine aw_aload at_140_121 rfl ?_
    refine aw_getf at_140_122 gf_916 ?_
    refine aw_iload at_140_125 rfl ?_
    refine aw_iald at_140_126 ai_44 ?_
    refine aw_iadd at_140_127 ?_
    refine aw_aload at_140_128 rfl ?_
    refine aw_getf at_140_129 gf_919 ?_
    refine aw_nameK (F := fun z => .int (S3.1 34 19) :: .int z :: [.ref 43]) rfl (fun x5 => ?_)
    refine aw_iast at_140_132 ar_43 (as_43 _ _) (fun S6 => ?_)
    refine aw_aload at_140_133 rfl ?_
    refine aw_getf at_140_134 gf_918 ?_
    refine aw_aload at_140_137 rfl ?_
    refine aw_getf at_140_138 gf_919 ?_
    refine aw_ic 0 at_140_141 ic_0 ?_
    refine aw_nameK (F := fun z => .int 0 :: .int z :: [.ref 46]) rfl (fun x8 => ?_)
    refine aw_zast at_140_142 ar_46 (as_46 _ _) (fun S9 => ?_)
    refine aw_aload at_140_143 rfl ?_
    refine aw_dupA at_140_144 ?_
    refine aw_getf at_140_145 gf_919 ?_
    refine aw_ic 1 at_140_148 ic_1 ?_
    refine aw_iadd at_140_149 ?_
    refine aw_putf at_140_150 (pf_919 _) (fun S10 => ?_)
    refine aw_aload at_140_153 rfl ?_
    refine aw_getf at_140_154 gf_916 ?_
    refine aw_iload at_140_157 rfl ?_
    refine aw_dup2IA at_140_158 ?_
    refine aw_iald at_140_159 ai_44 ?_
    refine aw_ic 1 at_140_160 ic_1 ?_
    refine aw_iadd at_140_161 ?_
    refine aw_iast at_140_162 ar_44 (as_44 _ _) (fun S11 => ?_)
    refine aw_aload at_140_163 rfl ?_
    refine aw_getf at_140_164 gf_957 ?_
    refine aw_ic 4 at_140_167 ic_4 ?_
    refine aw_aload at_140_168 rfl ?_
    refine aw_getf at_140_169 gf_923 ?_
    refine aw_imul at_140_172 ?_
    refine aw_aload at_140_173 rfl ?_
    refine aw_getf at_140_174 gf_916 ?_
    refine aw_iload at_140_177 rfl ?_
    refine aw_iald at_140_178 ai_44 ?_
    refine aw_iadd at_140_179 ?_
    refine aw_ic 1 at_140_180 ic_1 ?_
    refine aw_isub at_140_181 ?_
    refine aw_aload at_140_182 rfl ?_
    refine aw_getf at_140_183 gf_901 ?_
    refine aw_aload at_140_186 rfl ?_
    refine aw_getf at_140_187 gf_927 ?_
    refine aw_iald at_140_190 ai_35 ?_
    refine aw_nameK (F := fun z => .int (S11.1 35 (S11.1 34 27).toNatClampNeg) :: .int z :: [.ref 66]) rfl (fun x13 => ?_)
    refine aw_iast at_140_191 ar_66 (as_66 _ _) (fun S14 => ?_)
    exact aw_rV at_140_192 rfl
  · refine aw_aload at_140_81 rfl ?_
    refine aw_aload at_140_82 rfl ?_
    refine aw_getf at_140_83 gf_927 ?_
    refine aw_cV at_140_86 rfl (c_131 (by omega) _ _) (fun _ h => by cases h) rfl (fun S15 => ?_)
    exact aw_rV at_140_89 rfl
def g_140_70 (n : Nat) (H29 : Int32 → Int32 → Int32 → amS → amQ) (l1 : Int32) (l3 : Int32) (s0 : Int32) (S : amS) : amQ := H29 l1 s0 (l3 + 1) S
theorem t_140_70 {X : amX} {d e : Nat} {S0 : amS} {u : Nat → Int64} {H29 : Int32 → Int32 → Int32 → amS → amQ} (hd : 2 ≤ d) (n : Nat) (hH29 : ∀ (l1 : Int32) (l2 : Int32) (l3 : Int32) (S : amS), AW X d am_m140 (wm S0 u) e 29 [(0, .ref 34), (1, .int l1), (2, .int l2), (3, .int l3)] [] S (H29 l1 l2 l3 S)) (l1 : Int32) (l3 : Int32) (s0 : Int32) (S : amS) : AW X d am_m140 (wm S0 u) e 70 [(0, .ref 34), (1, .int l1), (3, .int l3)] [.int s0] S (g_140_70 n H29 l1 l3 s0 S) := by
  unfold g_140_70
  refine aw_istore at_140_70 (by decide) rfl rfl ?_
  refine aw_iinc at_140_71 rfl (by decide) rfl ic_1 rfl ?_
  refine aw_goto at_140_74 ?_
  exact aw_sub (al_cons rfl (al_cons rfl (al_cons rfl (al_cons rfl al_nil)))) (hH29 l1 s0 (l3 + 1) S)
def h_140_29 (n : Nat) (H29 : Int32 → Int32 → Int32 → amS → amQ) (l1 : Int32) (l2 : Int32) (l3 : Int32) (S : amS) : amQ := az_ck l1 256 (if (S.1 44 l1.toNatClampNeg) ≤ l3 then g_140_77 n l1 l2 S else if l2 = 0 then g_140_77 n l1 l2 S else az_ck (240 + l3) 256 (az_ck (S.1 34 27) 250 (if (S.1 50 (240 + l3).toNatClampNeg) = (S.1 35 (S.1 34 27).toNatClampNeg) then g_140_70 n H29 l1 l3 0 S else g_140_70 n H29 l1 l3 1 S)))
def g_140_29 : Nat → Int32 → Int32 → Int32 → amS → amQ
  | 0 => fun _ _ _ _ => none
  | n + 1 => h_140_29 n (g_140_29 n)
theorem th_140_29 {X : amX} {d e : Nat} {S0 : amS} {u : Nat → Int64} {H29 : Int32 → Int32 → Int32 → amS → amQ} (hd : 2 ≤ d) (n : Nat) (hH29 : ∀ (l1 : Int32) (l2 : Int32) (l3 : Int32) (S : amS), AW X d am_m140 (wm S0 u) e 29 [(0, .ref 34), (1, .int l1), (2, .int l2), (3, .int l3)] [] S (H29 l1 l2 l3 S)) (l1 : Int32) (l2 : Int32) (l3 : Int32)  (S : amS) : AW X d am_m140 (wm S0 u) e 29 [(0, .ref 34), (1, .int l1), (2, .int l2), (3, .int l3)] [] S (h_140_29 n H29 l1 l2 l3 S) := by
  unfold h_140_29
  refine aw_iload at_140_29 rfl ?_
  refine aw_aload at_140_30 rfl ?_
  refine aw_getf at_140_31 gf_916 ?_
  refine aw_iload at_140_34 rfl ?_
  refine aw_iald at_140_35 ai_44 ?_
  refine aw_icmp_ge at_140_36 ?_ ?_
  · exact aw_sub (al_cons rfl (al_cons rfl (al_cons rfl al_nil))) (t_140_77 (by omega) n l1 l2 S)
  · refine aw_iload at_140_39 rfl ?_
    refine aw_if_eq at_140_40 ?_ ?_
    · exact aw_sub (al_cons rfl (al_cons rfl (al_cons rfl al_nil))) (t_140_77 (by omega) n l1 l2 S)
    · refine aw_aload at_140_43 rfl ?_
      refine aw_getf at_140_44 gf_924 ?_
      refine aw_ic 240 at_140_47 ic_240 ?_
      refine aw_iload at_140_50 rfl ?_
      refine aw_iadd at_140_51 ?_
      refine aw_iald at_140_52 ai_50 ?_
      refine aw_aload at_140_53 rfl ?_
      refine aw_getf at_140_54 gf_901 ?_
      refine aw_aload at_140_57 rfl ?_
      refine aw_getf at_140_58 gf_927 ?_
      refine aw_iald at_140_61 ai_35 ?_
      refine aw_icmp_eq at_140_62 ?_ ?_
      · refine aw_ic 0 at_140_69 ic_0 ?_
        exact aw_sub (al_cons rfl (al_cons rfl (al_cons rfl al_nil))) (t_140_70 (by omega) n hH29 l1 l3 0 S)
      · refine aw_ic 1 at_140_65 ic_1 ?_
        refine aw_goto at_140_66 ?_
        exact aw_sub (al_cons rfl (al_cons rfl (al_cons rfl al_nil))) (t_140_70 (by omega) n hH29 l1 l3 1 S)
theorem t_140_29 {X : amX} {d e : Nat} {S0 : amS} {u : Nat → Int64} (hd : 2 ≤ d) : ∀ (n : Nat)  (l1 : Int32) (l2 : Int32) (l3 : Int32) (S : amS), AW X d am_m140 (wm S0 u) e 29 [(0, .ref 34), (1, .int l1), (2, .int l2), (3, .int l3)] [] S (g_140_29 n l1 l2 l3 S)
  | 0, _, _, _, _ => aw_none
  | n + 1, l1, l2, l3, S => th_140_29 hd n (t_140_29 hd n) l1 l2 l3 S
def g_140_26 (n : Nat) (l1 : Int32) (s0 : Int32) (S : amS) : amQ := g_140_29 n l1 s0 0 S
theorem t_140_26 {X : amX} {d e : Nat} {S0 : amS} {u : Nat → Int64} (hd : 2 ≤ d) (n : Nat)  (l1 : Int32) (s0 : Int32) (S : amS) : AW X d am_m140 (wm S0 u) e 26 [(0, .ref 34), (1, .int l1)] [.int s0] S (g_140_26 n l1 s0 S) := by
  unfold g_140_26
  refine aw_istore at_140_26 (by decide) rfl rfl ?_
  refine aw_ic 0 at_140_27 ic_0 ?_
  refine aw_istore at_140_28 (by decide) rfl rfl ?_
  exact aw_sub (al_cons rfl (al_cons rfl (al_cons rfl (al_cons rfl al_nil)))) (t_140_29 (by omega) n l1 s0 0 S)
def g_140_25 (n : Nat) (l1 : Int32) (S : amS) : amQ := g_140_26 n l1 0 S
theorem t_140_25 {X : amX} {d e : Nat} {S0 : amS} {u : Nat → Int64} (hd : 2 ≤ d) (n : Nat)  (l1 : Int32) (S : amS) : AW X d am_m140 (wm S0 u) e 25 [(0, .ref 34), (1, .int l1)] [] S (g_140_25 n l1 S) := by
  unfold g_140_25
  refine aw_ic 0 at_140_25 ic_0 ?_
  exact aw_sub (al_cons rfl (al_cons rfl al_nil)) (t_140_26 (by omega) n l1 0 S)
def g_140 (n : Nat) (l1 : Int32) (S : amS) : amQ := az_bV (g_134 n S) fun S1 => az_bI (g_136 S1) fun x2 S3 => if x2 = 0 then g_140_25 n l1 S3 else az_ck l1 256 (if 4 ≤ (S3.1 44 l1.toNatClampNeg) then g_140_25 n l1 S3 else g_140_26 n l1 1 S3)
theorem t_140 {X : amX} {d e : Nat} {S0 : amS} {u : Nat → Int64} (hd : 2 ≤ d) (n : Nat)  (l1 : Int32) (S : amS) : AW X d am_m140 (wm S0 u) e 0 [(0, .ref 34), (1, .int l1)] [] S (g_140 n l1 S) := by
  unfold g_140
  refine aw_aload at_140_0 rfl ?_
  refine aw_cV at_140_1 rfl (c_134 (by omega) n _) (fun _ h => by cases h) rfl (fun S1 => ?_)
  refine aw_aload at_140_4 rfl ?_
  refine aw_cI at_140_5 rfl (c_136 (by omega) _) (fun _ h => by cases h) rfl (fun x2 S3 => ?_)
  refine aw_if_eq at_140_8 ?_ ?_
  · exact aw_sub (al_cons rfl (al_cons rfl al_nil)) (t_140_25 (by omega) n l1 S3)
  · refine aw_aload at_140_11 rfl ?_
    refine aw_getf at_140_12 gf_916 ?_
    refine aw_iload at_140_15 rfl ?_
    refine aw_iald at_140_16 ai_44 ?_
    refine aw_ic 4 at_140_17 ic_4 ?_
    refine aw_icmp_ge at_140_18 ?_ ?_
    · exact aw_sub (al_cons rfl (al_cons rfl al_nil)) (t_140_25 (by omega) n l1 S3)
    · refine aw_ic 1 at_140_21 ic_1 ?_
      refine aw_goto at_140_22 ?_
      exact aw_sub (al_cons rfl (al_cons rfl al_nil)) (t_140_26 (by omega) n l1 1 S3)
theorem c_140 {X : amX} {d : Nat} {S0 : amS} {u : Nat → Int64} (hd : 3 ≤ d) (n : Nat) (l1 : Int32) (S : amS) : CW X d 140 [.ref 34, .int l1] (wm S0 u) S (g_140 n l1 S) := cw_up (by omega) (fun d' h => by
  subst h
  exact cw_of rfl (by decide) (Nat.le_of_ble_eq_true rfl) rfl (fun e => t_140 (by omega) n l1 S))
/-! 141: ListDeskModel.recall(I)V -/
theorem at_141_0 : am_at am_m141 0 = some (.iconst 0, 1, 0) := rfl
theorem at_141_1 : am_at am_m141 1 = some (.istore 2, 1, 0) := rfl
theorem at_141_2 : am_at am_m141 2 = some (.iload 2, 1, 0) := rfl
theorem at_141_3 : am_at am_m141 3 = some (.aload 0, 1, 0) := rfl
theorem at_141_4 : am_at am_m141 4 = some (.getfield 916, 3, 41) := rfl
theorem at_141_7 : am_at am_m141 7 = some (.iload 1, 1, 0) := rfl
theorem at_141_8 : am_at am_m141 8 = some (.iaload, 1, 0) := rfl
theorem at_141_9 : am_at am_m141 9 = some (.if_icmp .ge 41, 3, 0) := rfl
theorem at_141_12 : am_at am_m141 12 = some (.aload 0, 1, 0) := rfl
theorem at_141_13 : am_at am_m141 13 = some (.getfield 924, 3, 60) := rfl
theorem at_141_16 : am_at am_m141 16 = some (.iconst 240, 3, 2) := rfl
theorem at_141_19 : am_at am_m141 19 = some (.iload 2, 1, 0) := rfl
theorem at_141_20 : am_at am_m141 20 = some (.iadd, 1, 0) := rfl
theorem at_141_21 : am_at am_m141 21 = some (.aload 0, 1, 0) := rfl
theorem at_141_22 : am_at am_m141 22 = some (.getfield 957, 3, 110) := rfl
theorem at_141_25 : am_at am_m141 25 = some (.iconst 4, 1, 0) := rfl
theorem at_141_26 : am_at am_m141 26 = some (.aload 0, 1, 0) := rfl
theorem at_141_27 : am_at am_m141 27 = some (.getfield 923, 3, 167) := rfl
theorem at_141_30 : am_at am_m141 30 = some (.imul, 1, 0) := rfl
theorem at_141_31 : am_at am_m141 31 = some (.iload 2, 1, 0) := rfl
theorem at_141_32 : am_at am_m141 32 = some (.iadd, 1, 0) := rfl
theorem at_141_33 : am_at am_m141 33 = some (.iaload, 1, 0) := rfl
theorem at_141_34 : am_at am_m141 34 = some (.iastore, 1, 0) := rfl
theorem at_141_35 : am_at am_m141 35 = some (.iinc 2 1, 3, 0) := rfl
theorem at_141_38 : am_at am_m141 38 = some (.goto 2, 3, 0) := rfl
theorem at_141_41 : am_at am_m141 41 = some (.return_, 1, 0) := rfl
def h_141_2 (n : Nat) (H2 : Int32 → Int32 → amS → amQ) (l1 : Int32) (l2 : Int32) (S : amS) : amQ := az_ck l1 256 (if (S.1 44 l1.toNatClampNeg) ≤ l2 then some (.inl none, S) else az_ck ((4 * (S.1 34 23)) + l2) 104 (az_st (240 + l2) fun x2 => az_ck x2 256 (az_st (sI S 50 x2.toNatClampNeg (S.1 66 ((4 * (S.1 34 23)) + l2).toNatClampNeg)) fun S3 => H2 l1 (l2 + 1) S3)))
def g_141_2 : Nat → Int32 → Int32 → amS → amQ
  | 0 => fun _ _ _ => none
  | n + 1 => h_141_2 n (g_141_2 n)
theorem th_141_2 {X : amX} {d e : Nat} {S0 : amS} {u : Nat → Int64} {H2 : Int32 → Int32 → amS → amQ} (hd : 0 ≤ d) (n : Nat) (hH2 : ∀ (l1 : Int32) (l2 : Int32) (S : amS), AW X d am_m141 (wm S0 u) e 2 [(0, .ref 34), (1, .int l1), (2, .int l2)] [] S (H2 l1 l2 S)) (l1 : Int32) (l2 : Int32)  (S : amS) : AW X d am_m141 (wm S0 u) e 2 [(0, .ref 34), (1, .int l1), (2, .int l2)] [] S (h_141_2 n H2 l1 l2 S) := by
  unfold h_141_2
  refine aw_iload at_141_2 rfl ?_
  refine aw_aload at_141_3 rfl ?_
  refine aw_getf at_141_4 gf_916 ?_
  refine aw_iload at_141_7 rfl ?_
  refine aw_iald at_141_8 ai_44 ?_
  refine aw_icmp_ge at_141_9 ?_ ?_
  · exact aw_rV at_141_41 rfl
  · refine aw_aload at_141_12 rfl ?_
    refine aw_getf at_141_13 gf_924 ?_
    refine aw_ic 240 at_141_16 ic_240 ?_
    refine aw_iload at_141_19 rfl ?_
    refine aw_iadd at_141_20 ?_
    refine aw_aload at_141_21 rfl ?_
    refine aw_getf at_141_22 gf_957 ?_
    refine aw_ic 4 at_141_25 ic_4 ?_
    refine aw_aload at_141_26 rfl ?_
    refine aw_getf at_141_27 gf_923 ?_
    refine aw_imul at_141_30 ?_
    refine aw_iload at_141_31 rfl ?_
    refine aw_iadd at_141_32 ?_
    refine aw_iald at_141_33 ai_66 ?_
    refine aw_nameK (F := fun z => .int (S.1 66 ((4 * (S.1 34 23)) + l2).toNatClampNeg) :: .int z :: [.ref 50]) rfl (fun x2 => ?_)
    refine aw_iast at_141_34 ar_50 (as_50 _ _) (fun S3 => ?_)
    refine aw_iinc at_141_35 rfl (by decide) rfl ic_1 rfl ?_
    refine aw_goto at_141_38 ?_
    exact aw_sub (al_cons rfl (al_cons rfl (al_cons rfl al_nil))) (hH2 l1 (l2 + 1) S3)
theorem t_141_2 {X : amX} {d e : Nat} {S0 : amS} {u : Nat → Int64} (hd : 0 ≤ d) : ∀ (n : Nat)  (l1 : Int32) (l2 : Int32) (S : amS), AW X d am_m141 (wm S0 u) e 2 [(0, .ref 34), (1, .int l1), (2, .int l2)] [] S (g_141_2 n l1 l2 S)
  | 0, _, _, _ => aw_none
  | n + 1, l1, l2, S => th_141_2 hd n (t_141_2 hd n) l1 l2 S
def g_141 (n : Nat) (l1 : Int32) (S : amS) : amQ := g_141_2 n l1 0 S
theorem t_141 {X : amX} {d e : Nat} {S0 : amS} {u : Nat → Int64} (hd : 0 ≤ d) (n : Nat)  (l1 : Int32) (S : amS) : AW X d am_m141 (wm S0 u) e 0 [(0, .ref 34), (1, .int l1)] [] S (g_141 n l1 S) := by
  unfold g_141
  refine aw_ic 0 at_141_0 ic_0 ?_
  refine aw_istore at_141_1 (by decide) rfl rfl ?_
  exact aw_sub (al_cons rfl (al_cons rfl (al_cons rfl al_nil))) (t_141_2 (by omega) n l1 0 S)
theorem c_141 {X : amX} {d : Nat} {S0 : amS} {u : Nat → Int64} (hd : 1 ≤ d) (n : Nat) (l1 : Int32) (S : amS) : CW X d 141 [.ref 34, .int l1] (wm S0 u) S (g_141 n l1 S) := cw_up (by omega) (fun d' h => by
  subst h
  exact cw_of rfl (by decide) (Nat.le_of_ble_eq_true rfl) rfl (fun e => t_141 (by omega) n l1 S))
/-! 142: ListDeskModel.bindAll(I)V -/
theorem at_142_0 : am_at am_m142 0 = some (.iconst 0, 1, 0) := rfl
theorem at_142_1 : am_at am_m142 1 = some (.istore 2, 1, 0) := rfl
theorem at_142_2 : am_at am_m142 2 = some (.iload 2, 1, 0) := rfl
theorem at_142_3 : am_at am_m142 3 = some (.aload 0, 1, 0) := rfl
theorem at_142_4 : am_at am_m142 4 = some (.getfield 916, 3, 41) := rfl
theorem at_142_7 : am_at am_m142 7 = some (.iload 1, 1, 0) := rfl
theorem at_142_8 : am_at am_m142 8 = some (.iaload, 1, 0) := rfl
theorem at_142_9 : am_at am_m142 9 = some (.if_icmp .ge 69, 3, 0) := rfl
theorem at_142_12 : am_at am_m142 12 = some (.aload 0, 1, 0) := rfl
theorem at_142_13 : am_at am_m142 13 = some (.getfield 924, 3, 60) := rfl
theorem at_142_16 : am_at am_m142 16 = some (.aload 0, 1, 0) := rfl
theorem at_142_17 : am_at am_m142 17 = some (.getfield 926, 3, 154) := rfl
theorem at_142_20 : am_at am_m142 20 = some (.aload 0, 1, 0) := rfl
theorem at_142_21 : am_at am_m142 21 = some (.getfield 957, 3, 110) := rfl
theorem at_142_24 : am_at am_m142 24 = some (.iconst 4, 1, 0) := rfl
theorem at_142_25 : am_at am_m142 25 = some (.aload 0, 1, 0) := rfl
theorem at_142_26 : am_at am_m142 26 = some (.getfield 923, 3, 167) := rfl
theorem at_142_29 : am_at am_m142 29 = some (.imul, 1, 0) := rfl
theorem at_142_30 : am_at am_m142 30 = some (.iload 2, 1, 0) := rfl
theorem at_142_31 : am_at am_m142 31 = some (.iadd, 1, 0) := rfl
theorem at_142_32 : am_at am_m142 32 = some (.iaload, 1, 0) := rfl
theorem at_142_33 : am_at am_m142 33 = some (.iastore, 1, 0) := rfl
theorem at_142_34 : am_at am_m142 34 = some (.aload 0, 1, 0) := rfl
theorem at_142_35 : am_at am_m142 35 = some (.getfield 925, 3, 63) := rfl
theorem at_142_38 : am_at am_m142 38 = some (.aload 0, 1, 0) := rfl
theorem at_142_39 : am_at am_m142 39 = some (.getfield 926, 3, 154) := rfl
theorem at_142_42 : am_at am_m142 42 = some (.aload 0, 1, 0) := rfl
theorem at_142_43 : am_at am_m142 43 = some (.getfield 915, 3, 38) := rfl
theorem at_142_46 : am_at am_m142 46 = some (.iconst 4, 1, 0) := rfl
theorem at_142_47 : am_at am_m142 47 = some (.iload 1, 1, 0) := rfl
theorem at_142_48 : am_at am_m142 48 = some (.imul, 1, 0) := rfl
theorem at_142_49 : am_at am_m142 49 = some (.iload 2, 1, 0) := rfl
theorem at_142_50 : am_at am_m142 50 = some (.iadd, 1, 0) := rfl
theorem at_142_51 : am_at am_m142 51 = some (.iaload, 1, 0) := rfl
theorem at_142_52 : am_at am_m142 52 = some (.iastore, 1, 0) := rfl
theorem at_142_53 : am_at am_m142 53 = some (.aload 0, 1, 0) := rfl
theorem at_142_54 : am_at am_m142 54 = some (.dup, 1, 0) := rfl
theorem at_142_55 : am_at am_m142 55 = some (.getfield 926, 3, 154) := rfl
theorem at_142_58 : am_at am_m142 58 = some (.iconst 1, 1, 0) := rfl
theorem at_142_59 : am_at am_m142 59 = some (.iadd, 1, 0) := rfl
theorem at_142_60 : am_at am_m142 60 = some (.putfield 926, 3, 154) := rfl
theorem at_142_63 : am_at am_m142 63 = some (.iinc 2 1, 3, 0) := rfl
theorem at_142_66 : am_at am_m142 66 = some (.goto 2, 3, 0) := rfl
theorem at_142_69 : am_at am_m142 69 = some (.return_, 1, 0) := rfl
def h_142_2 (n : Nat) (H2 : Int32 → Int32 → amS → amQ) (l1 : Int32) (l2 : Int32) (S : amS) : amQ := az_ck l1 256 (if (S.1 44 l1.toNatClampNeg) ≤ l2 then some (.inl none, S) else az_ck ((4 * (S.1 34 23)) + l2) 104 (az_st (S.1 34 26) fun x2 => az_ck x2 256 (az_st (sI S 50 x2.toNatClampNeg (S.1 66 ((4 * (S.1 34 23)) + l2).toNatClampNeg)) fun S3 => az_ck ((4 * l1) + l2) 1024 (az_st (S3.1 34 26) fun x5 => az_ck x5 256 (az_st (sI S3 51 x5.toNatClampNeg (S3.1 43 ((4 * l1) + l2).toNatClampNeg)) fun S6 => az_st (sI S6 34 26 ((S6.1 34 26) + 1)) fun S7 => H2 l1 (l2 + 1) S7)))))
def g_142_2 : Nat → Int32 → Int32 → amS → amQ
  | 0 => fun _ _ _ => none
  | n + 1 => h_142_2 n (g_142_2 n)
theorem th_142_2 {X : amX} {d e : Nat} {S0 : amS} {u : Nat → Int64} {H2 : Int32 → Int32 → amS → amQ} (hd : 0 ≤ d) (n : Nat) (hH2 : ∀ (l1 : Int32) (l2 : Int32) (S : amS), AW X d am_m142 (wm S0 u) e 2 [(0, .ref 34), (1, .int l1), (2, .int l2)] [] S (H2 l1 l2 S)) (l1 : Int32) (l2 : Int32)  (S : amS) : AW X d am_m142 (wm S0 u) e 2 [(0, .ref 34), (1, .int l1), (2, .int l2)] [] S (h_142_2 n H2 l1 l2 S) := by
  unfold h_142_2
  refine aw_iload at_142_2 rfl ?_
  refine aw_aload at_142_3 rfl ?_
  refine aw_getf at_142_4 gf_916 ?_
  refine aw_iload at_142_7 rfl ?_
  refine aw_iald at_142_8 ai_44 ?_
  refine aw_icmp_ge at_142_9 ?_ ?_
  · exact aw_rV at_142_69 rfl
  · refine aw_aload at_142_12 rfl ?_
    refine aw_getf at_142_13 gf_924 ?_
    refine aw_aload at_142_16 rfl ?_
    refine aw_getf at_142_17 gf_926 ?_
    refine aw_aload at_142_20 rfl ?_
    refine aw_getf at_142_21 gf_957 ?_
    refine aw_ic 4 at_142_24 ic_4 ?_
    refine aw_aload at_142_25 rfl ?_
    refine aw_getf at_142_26 gf_923 ?_
    refine aw_imul at_142_29 ?_
    refine aw_iload at_142_30 rfl ?_
    refine aw_iadd at_142_31 ?_
    refine aw_iald at_142_32 ai_66 ?_
    refine aw_nameK (F := fun z => .int (S.1 66 ((4 * (S.1 34 23)) + l2).toNatClampNeg) :: .int z :: [.ref 50]) rfl (fun x2 => ?_)
    refine aw_iast at_142_33 ar_50 (as_50 _ _) (fun S3 => ?_)
    refine aw_aload at_142_34 rfl ?_
    refine aw_getf at_142_35 gf_925 ?_
    refine aw_aload at_142_38 rfl ?_
    refine aw_getf at_142_39 gf_926 ?_
    refine aw_aload at_142_42 rfl ?_
    refine aw_getf at_142_43 gf_915 ?_
    refine aw_ic 4 at_142_46 ic_4 ?_
    refine aw_iload at_142_47 rfl ?_
    refine aw_imul at_142_48 ?_
    refine aw_iload at_142_49 rfl ?_
    refine aw_iadd at_142_50 ?_
    refine aw_iald at_142_51 ai_43 ?_
    refine aw_nameK (F := fun z => .int (S3.1 43 ((4 * l1) + l2).toNatClampNeg) :: .int z :: [.ref 51]) rfl (fun x5 => ?_)
    refine aw_iast at_142_52 ar_51 (as_51 _ _) (fun S6 => ?_)
    refine aw_aload at_142_53 rfl ?_
    refine aw_dupA at_142_54 ?_
    refine aw_getf at_142_55 gf_926 ?_
    refine aw_ic 1 at_142_58 ic_1 ?_
    refine aw_iadd at_142_59 ?_
    refine aw_putf at_142_60 (pf_926 _) (fun S7 => ?_)
    refine aw_iinc at_142_63 rfl (by decide) rfl ic_1 rfl ?_
    refine aw_goto at_142_66 ?_
    exact aw_sub (al_cons rfl (al_cons rfl (al_cons rfl al_nil))) (hH2 l1 (l2 + 1) S7)
theorem t_142_2 {X : amX} {d e : Nat} {S0 : amS} {u : Nat → Int64} (hd : 0 ≤ d) : ∀ (n : Nat)  (l1 : Int32) (l2 : Int32) (S : amS), AW X d am_m142 (wm S0 u) e 2 [(0, .ref 34), (1, .int l1), (2, .int l2)] [] S (g_142_2 n l1 l2 S)
  | 0, _, _, _ => aw_none
  | n + 1, l1, l2, S => th_142_2 hd n (t_142_2 hd n) l1 l2 S
def g_142 (n : Nat) (l1 : Int32) (S : amS) : amQ := g_142_2 n l1 0 S
theorem t_142 {X : amX} {d e : Nat} {S0 : amS} {u : Nat → Int64} (hd : 0 ≤ d) (n : Nat)  (l1 : Int32) (S : amS) : AW X d am_m142 (wm S0 u) e 0 [(0, .ref 34), (1, .int l1)] [] S (g_142 n l1 S) := by
  unfold g_142
  refine aw_ic 0 at_142_0 ic_0 ?_
  refine aw_istore at_142_1 (by decide) rfl rfl ?_
  exact aw_sub (al_cons rfl (al_cons rfl (al_cons rfl al_nil))) (t_142_2 (by omega) n l1 0 S)
theorem c_142 {X : amX} {d : Nat} {S0 : amS} {u : Nat → Int64} (hd : 1 ≤ d) (n : Nat) (l1 : Int32) (S : amS) : CW X d 142 [.ref 34, .int l1] (wm S0 u) S (g_142 n l1 S) := cw_up (by omega) (fun d' h => by
  subst h
  exact cw_of rfl (by decide) (Nat.le_of_ble_eq_true rfl) rfl (fun e => t_142 (by omega) n l1 S))
/-! 143: ListDeskModel.keyword()I -/
theorem at_143_0 : am_at am_m143 0 = some (.aload 0, 1, 0) := rfl
theorem at_143_1 : am_at am_m143 1 = some (.iconst 108, 2, 1) := rfl
theorem at_143_3 : am_at am_m143 3 = some (.iconst 97, 2, 1) := rfl
theorem at_143_5 : am_at am_m143 5 = some (.iconst 109, 2, 1) := rfl
theorem at_143_7 : am_at am_m143 7 = some (.iconst 98, 2, 1) := rfl
theorem at_143_9 : am_at am_m143 9 = some (.iconst 100, 2, 1) := rfl
theorem at_143_11 : am_at am_m143 11 = some (.iconst 97, 2, 1) := rfl
theorem at_143_13 : am_at am_m143 13 = some (.invokevirtual 135, 3, 170) := rfl
theorem at_143_16 : am_at am_m143 16 = some (.ifCond .eq 21, 3, 0) := rfl
theorem at_143_19 : am_at am_m143 19 = some (.iconst 3, 1, 0) := rfl
theorem at_143_20 : am_at am_m143 20 = some (.ireturn, 1, 0) := rfl
theorem at_143_21 : am_at am_m143 21 = some (.aload 0, 1, 0) := rfl
theorem at_143_22 : am_at am_m143 22 = some (.iconst 105, 2, 1) := rfl
theorem at_143_24 : am_at am_m143 24 = some (.iconst 102, 2, 1) := rfl
theorem at_143_26 : am_at am_m143 26 = some (.iconst 0, 1, 0) := rfl
theorem at_143_27 : am_at am_m143 27 = some (.iconst 0, 1, 0) := rfl
theorem at_143_28 : am_at am_m143 28 = some (.iconst 0, 1, 0) := rfl
theorem at_143_29 : am_at am_m143 29 = some (.iconst 0, 1, 0) := rfl
theorem at_143_30 : am_at am_m143 30 = some (.invokevirtual 135, 3, 170) := rfl
theorem at_143_33 : am_at am_m143 33 = some (.ifCond .eq 38, 3, 0) := rfl
theorem at_143_36 : am_at am_m143 36 = some (.iconst 4, 1, 0) := rfl
theorem at_143_37 : am_at am_m143 37 = some (.ireturn, 1, 0) := rfl
theorem at_143_38 : am_at am_m143 38 = some (.aload 0, 1, 0) := rfl
theorem at_143_39 : am_at am_m143 39 = some (.iconst 108, 2, 1) := rfl
theorem at_143_41 : am_at am_m143 41 = some (.iconst 101, 2, 1) := rfl
theorem at_143_43 : am_at am_m143 43 = some (.iconst 116, 2, 1) := rfl
theorem at_143_45 : am_at am_m143 45 = some (.iconst 0, 1, 0) := rfl
theorem at_143_46 : am_at am_m143 46 = some (.iconst 0, 1, 0) := rfl
theorem at_143_47 : am_at am_m143 47 = some (.iconst 0, 1, 0) := rfl
theorem at_143_48 : am_at am_m143 48 = some (.invokevirtual 135, 3, 170) := rfl
theorem at_143_51 : am_at am_m143 51 = some (.ifCond .eq 56, 3, 0) := rfl
theorem at_143_54 : am_at am_m143 54 = some (.iconst 5, 1, 0) := rfl
theorem at_143_55 : am_at am_m143 55 = some (.ireturn, 1, 0) := rfl
theorem at_143_56 : am_at am_m143 56 = some (.aload 0, 1, 0) := rfl
theorem at_143_57 : am_at am_m143 57 = some (.iconst 108, 2, 1) := rfl
theorem at_143_59 : am_at am_m143 59 = some (.iconst 101, 2, 1) := rfl
theorem at_143_61 : am_at am_m143 61 = some (.iconst 116, 2, 1) := rfl
theorem at_143_63 : am_at am_m143 63 = some (.iconst 114, 2, 1) := rfl
theorem at_143_65 : am_at am_m143 65 = some (.iconst 101, 2, 1) := rfl
theorem at_143_67 : am_at am_m143 67 = some (.iconst 99, 2, 1) := rfl
theorem at_143_69 : am_at am_m143 69 = some (.invokevirtual 135, 3, 170) := rfl
theorem at_143_72 : am_at am_m143 72 = some (.ifCond .eq 78, 3, 0) := rfl
theorem at_143_75 : am_at am_m143 75 = some (.iconst 6, 2, 1) := rfl
theorem at_143_77 : am_at am_m143 77 = some (.ireturn, 1, 0) := rfl
theorem at_143_78 : am_at am_m143 78 = some (.aload 0, 1, 0) := rfl
theorem at_143_79 : am_at am_m143 79 = some (.iconst 115, 2, 1) := rfl
theorem at_143_81 : am_at am_m143 81 = some (.iconst 101, 2, 1) := rfl
theorem at_143_83 : am_at am_m143 83 = some (.iconst 116, 2, 1) := rfl
theorem at_143_85 : am_at am_m143 85 = some (.iconst 33, 2, 1) := rfl
theorem at_143_87 : am_at am_m143 87 = some (.iconst 0, 1, 0) := rfl
theorem at_143_88 : am_at am_m143 88 = some (.iconst 0, 1, 0) := rfl
theorem at_143_89 : am_at am_m143 89 = some (.invokevirtual 135, 3, 170) := rfl
theorem at_143_92 : am_at am_m143 92 = some (.ifCond .eq 98, 3, 0) := rfl
theorem at_143_95 : am_at am_m143 95 = some (.iconst 7, 2, 1) := rfl
theorem at_143_97 : am_at am_m143 97 = some (.ireturn, 1, 0) := rfl
theorem at_143_98 : am_at am_m143 98 = some (.aload 0, 1, 0) := rfl
theorem at_143_99 : am_at am_m143 99 = some (.iconst 98, 2, 1) := rfl
theorem at_143_101 : am_at am_m143 101 = some (.iconst 101, 2, 1) := rfl
theorem at_143_103 : am_at am_m143 103 = some (.iconst 103, 2, 1) := rfl
theorem at_143_105 : am_at am_m143 105 = some (.iconst 105, 2, 1) := rfl
theorem at_143_107 : am_at am_m143 107 = some (.iconst 110, 2, 1) := rfl
theorem at_143_109 : am_at am_m143 109 = some (.iconst 0, 1, 0) := rfl
theorem at_143_110 : am_at am_m143 110 = some (.invokevirtual 135, 3, 170) := rfl
theorem at_143_113 : am_at am_m143 113 = some (.ifCond .eq 121, 3, 0) := rfl
theorem at_143_116 : am_at am_m143 116 = some (.iconst 8, 2, 1) := rfl
theorem at_143_118 : am_at am_m143 118 = some (.goto 122, 3, 0) := rfl
theorem at_143_121 : am_at am_m143 121 = some (.iconst (-1), 1, 0) := rfl
theorem at_143_122 : am_at am_m143 122 = some (.ireturn, 1, 0) := rfl
def g_143 (S : amS) : amQ := az_bI (g_135 108 97 109 98 100 97 S) fun x1 S2 => if x1 = 0 then az_bI (g_135 105 102 0 0 0 0 S2) fun x3 S4 => if x3 = 0 then az_bI (g_135 108 101 116 0 0 0 S4) fun x5 S6 => if x5 = 0 then az_bI (g_135 108 101 116 114 101 99 S6) fun x7 S8 => if x7 = 0 then az_bI (g_135 115 101 116 33 0 0 S8) fun x9 S10 => if x9 = 0 then az_bI (g_135 98 101 103 105 110 0 S10) fun x11 S12 => if x11 = 0 then some (.inl (some (.int ((-1)))), S12) else some (.inl (some (.int 8)), S12) else some (.inl (some (.int 7)), S10) else some (.inl (some (.int 6)), S8) else some (.inl (some (.int 5)), S6) else some (.inl (some (.int 4)), S4) else some (.inl (some (.int 3)), S2)
theorem t_143 {X : amX} {d e : Nat} {S0 : amS} {u : Nat → Int64} (hd : 1 ≤ d)  (S : amS) : AW X d am_m143 (wm S0 u) e 0 [(0, .ref 34)] [] S (g_143 S) := by
  unfold g_143
  refine aw_aload at_143_0 rfl ?_
  refine aw_ic 108 at_143_1 ic_108 ?_
  refine aw_ic 97 at_143_3 ic_97 ?_
  refine aw_ic 109 at_143_5 ic_109 ?_
  refine aw_ic 98 at_143_7 ic_98 ?_
  refine aw_ic 100 at_143_9 ic_100 ?_
  refine aw_ic 97 at_143_11 ic_97 ?_
  refine aw_cI at_143_13 rfl (c_135 (by omega) _ _ _ _ _ _ _) (fun _ h => by cases h) rfl (fun x1 S2 => ?_)
  refine aw_if_eq at_143_16 ?_ ?_
  · refine aw_aload at_143_21 rfl ?_
    refine aw_ic 105 at_143_22 ic_105 ?_
    refine aw_ic 102 at_143_24 ic_102 ?_
    refine aw_ic 0 at_143_26 ic_0 ?_
    refine aw_ic 0 at_143_27 ic_0 ?_
    refine aw_ic 0 at_143_28 ic_0 ?_
    refine aw_ic 0 at_143_29 ic_0 ?_
    refine aw_cI at_143_30 rfl (c_135 (by omega) _ _ _ _ _ _ _) (fun _ h => by cases h) rfl (fun x3 S4 => ?_)
    refine aw_if_eq at_143_33 ?_ ?_
    · refine aw_aload at_143_38 rfl ?_
      refine aw_ic 108 at_143_39 ic_108 ?_
      refine aw_ic 101 at_143_41 ic_101 ?_
      refine aw_ic 116 at_143_43 ic_116 ?_
      refine aw_ic 0 at_143_45 ic_0 ?_
      refine aw_ic 0 at_143_46 ic_0 ?_
      refine aw_ic 0 at_143_47 ic_0 ?_
      refine aw_cI at_143_48 rfl (c_135 (by omega) _ _ _ _ _ _ _) (fun _ h => by cases h) rfl (fun x5 S6 => ?_)
      refine aw_if_eq at_143_51 ?_ ?_
      · refine aw_aload at_143_56 rfl ?_
        refine aw_ic 108 at_143_57 ic_108 ?_
        refine aw_ic 101 at_143_59 ic_101 ?_
        refine aw_ic 116 at_143_61 ic_116 ?_
        refine aw_ic 114 at_143_63 ic_114 ?_
        refine aw_ic 101 at_143_65 ic_101 ?_
        refine aw_ic 99 at_143_67 ic_99 ?_
        refine aw_cI at_143_69 rfl (c_135 (by omega) _ _ _ _ _ _ _) (fun _ h => by cases h) rfl (fun x7 S8 => ?_)
        refine aw_if_eq at_143_72 ?_ ?_
        · refine aw_aload at_143_78 rfl ?_
          refine aw_ic 115 at_143_79 ic_115 ?_
          refine aw_ic 101 at_143_81 ic_101 ?_
          refine aw_ic 116 at_143_83 ic_116 ?_
          refine aw_ic 33 at_143_85 ic_33 ?_
          refine aw_ic 0 at_143_87 ic_0 ?_
          refine aw_ic 0 at_143_88 ic_0 ?_
          refine aw_cI at_143_89 rfl (c_135 (by omega) _ _ _ _ _ _ _) (fun _ h => by cases h) rfl (fun x9 S10 => ?_)
          refine aw_if_eq at_143_92 ?_ ?_
          · refine aw_aload at_143_98 rfl ?_
            refine aw_ic 98 at_143_99 ic_98 ?_
            refine aw_ic 101 at_143_101 ic_101 ?_
            refine aw_ic 103 at_143_103 ic_103 ?_
            refine aw_ic 105 at_143_105 ic_105 ?_
            refine aw_ic 110 at_143_107 ic_110 ?_
            refine aw_ic 0 at_143_109 ic_0 ?_
            refine aw_cI at_143_110 rfl (c_135 (by omega) _ _ _ _ _ _ _) (fun _ h => by cases h) rfl (fun x11 S12 => ?_)
            refine aw_if_eq at_143_113 ?_ ?_
            · refine aw_ic (-1) at_143_121 ic_m1 ?_
              exact aw_rI at_143_122 rfl
            · refine aw_ic 8 at_143_116 ic_8 ?_
              refine aw_goto at_143_118 ?_
              exact aw_rI at_143_122 rfl
          · refine aw_ic 7 at_143_95 ic_7 ?_
            exact aw_rI at_143_97 rfl
        · refine aw_ic 6 at_143_75 ic_6 ?_
          exact aw_rI at_143_77 rfl
      · refine aw_ic 5 at_143_54 ic_5 ?_
        exact aw_rI at_143_55 rfl
    · refine aw_ic 4 at_143_36 ic_4 ?_
      exact aw_rI at_143_37 rfl
  · refine aw_ic 3 at_143_19 ic_3 ?_
    exact aw_rI at_143_20 rfl
theorem c_143 {X : amX} {d : Nat} {S0 : amS} {u : Nat → Int64} (hd : 2 ≤ d) (S : amS) : CW X d 143 [.ref 34] (wm S0 u) S (g_143 S) := cw_up (by omega) (fun d' h => by
  subst h
  exact cw_of rfl (by decide) (Nat.le_of_ble_eq_true rfl) rfl (fun e => t_143 (by omega) S))
/-! 144: ListDeskModel.primitive()I -/
theorem at_144_0 : am_at am_m144 0 = some (.aload 0, 1, 0) := rfl
theorem at_144_1 : am_at am_m144 1 = some (.iconst 43, 2, 1) := rfl
theorem at_144_3 : am_at am_m144 3 = some (.iconst 0, 1, 0) := rfl
theorem at_144_4 : am_at am_m144 4 = some (.iconst 0, 1, 0) := rfl
theorem at_144_5 : am_at am_m144 5 = some (.iconst 0, 1, 0) := rfl
theorem at_144_6 : am_at am_m144 6 = some (.iconst 0, 1, 0) := rfl
theorem at_144_7 : am_at am_m144 7 = some (.iconst 0, 1, 0) := rfl
theorem at_144_8 : am_at am_m144 8 = some (.invokevirtual 135, 3, 170) := rfl
theorem at_144_11 : am_at am_m144 11 = some (.ifCond .eq 16, 3, 0) := rfl
theorem at_144_14 : am_at am_m144 14 = some (.iconst 0, 1, 0) := rfl
theorem at_144_15 : am_at am_m144 15 = some (.ireturn, 1, 0) := rfl
theorem at_144_16 : am_at am_m144 16 = some (.aload 0, 1, 0) := rfl
theorem at_144_17 : am_at am_m144 17 = some (.iconst 45, 2, 1) := rfl
theorem at_144_19 : am_at am_m144 19 = some (.iconst 0, 1, 0) := rfl
theorem at_144_20 : am_at am_m144 20 = some (.iconst 0, 1, 0) := rfl
theorem at_144_21 : am_at am_m144 21 = some (.iconst 0, 1, 0) := rfl
theorem at_144_22 : am_at am_m144 22 = some (.iconst 0, 1, 0) := rfl
theorem at_144_23 : am_at am_m144 23 = some (.iconst 0, 1, 0) := rfl
theorem at_144_24 : am_at am_m144 24 = some (.invokevirtual 135, 3, 170) := rfl
theorem at_144_27 : am_at am_m144 27 = some (.ifCond .eq 32, 3, 0) := rfl
theorem at_144_30 : am_at am_m144 30 = some (.iconst 1, 1, 0) := rfl
theorem at_144_31 : am_at am_m144 31 = some (.ireturn, 1, 0) := rfl
theorem at_144_32 : am_at am_m144 32 = some (.aload 0, 1, 0) := rfl
theorem at_144_33 : am_at am_m144 33 = some (.iconst 42, 2, 1) := rfl
theorem at_144_35 : am_at am_m144 35 = some (.iconst 0, 1, 0) := rfl
theorem at_144_36 : am_at am_m144 36 = some (.iconst 0, 1, 0) := rfl
theorem at_144_37 : am_at am_m144 37 = some (.iconst 0, 1, 0) := rfl
theorem at_144_38 : am_at am_m144 38 = some (.iconst 0, 1, 0) := rfl
theorem at_144_39 : am_at am_m144 39 = some (.iconst 0, 1, 0) := rfl
theorem at_144_40 : am_at am_m144 40 = some (.invokevirtual 135, 3, 170) := rfl
theorem at_144_43 : am_at am_m144 43 = some (.ifCond .eq 48, 3, 0) := rfl
theorem at_144_46 : am_at am_m144 46 = some (.iconst 2, 1, 0) := rfl
theorem at_144_47 : am_at am_m144 47 = some (.ireturn, 1, 0) := rfl
theorem at_144_48 : am_at am_m144 48 = some (.aload 0, 1, 0) := rfl
theorem at_144_49 : am_at am_m144 49 = some (.iconst 60, 2, 1) := rfl
theorem at_144_51 : am_at am_m144 51 = some (.iconst 0, 1, 0) := rfl
theorem at_144_52 : am_at am_m144 52 = some (.iconst 0, 1, 0) := rfl
theorem at_144_53 : am_at am_m144 53 = some (.iconst 0, 1, 0) := rfl
theorem at_144_54 : am_at am_m144 54 = some (.iconst 0, 1, 0) := rfl
theorem at_144_55 : am_at am_m144 55 = some (.iconst 0, 1, 0) := rfl
theorem at_144_56 : am_at am_m144 56 = some (.invokevirtual 135, 3, 170) := rfl
theorem at_144_59 : am_at am_m144 59 = some (.ifCond .eq 64, 3, 0) := rfl
theorem at_144_62 : am_at am_m144 62 = some (.iconst 3, 1, 0) := rfl
theorem at_144_63 : am_at am_m144 63 = some (.ireturn, 1, 0) := rfl
theorem at_144_64 : am_at am_m144 64 = some (.aload 0, 1, 0) := rfl
theorem at_144_65 : am_at am_m144 65 = some (.iconst 61, 2, 1) := rfl
theorem at_144_67 : am_at am_m144 67 = some (.iconst 0, 1, 0) := rfl
theorem at_144_68 : am_at am_m144 68 = some (.iconst 0, 1, 0) := rfl
theorem at_144_69 : am_at am_m144 69 = some (.iconst 0, 1, 0) := rfl
theorem at_144_70 : am_at am_m144 70 = some (.iconst 0, 1, 0) := rfl
theorem at_144_71 : am_at am_m144 71 = some (.iconst 0, 1, 0) := rfl
theorem at_144_72 : am_at am_m144 72 = some (.invokevirtual 135, 3, 170) := rfl
theorem at_144_75 : am_at am_m144 75 = some (.ifCond .eq 80, 3, 0) := rfl
theorem at_144_78 : am_at am_m144 78 = some (.iconst 4, 1, 0) := rfl
theorem at_144_79 : am_at am_m144 79 = some (.ireturn, 1, 0) := rfl
theorem at_144_80 : am_at am_m144 80 = some (.aload 0, 1, 0) := rfl
theorem at_144_81 : am_at am_m144 81 = some (.iconst 101, 2, 1) := rfl
theorem at_144_83 : am_at am_m144 83 = some (.iconst 113, 2, 1) := rfl
theorem at_144_85 : am_at am_m144 85 = some (.iconst 63, 2, 1) := rfl
theorem at_144_87 : am_at am_m144 87 = some (.iconst 0, 1, 0) := rfl
theorem at_144_88 : am_at am_m144 88 = some (.iconst 0, 1, 0) := rfl
theorem at_144_89 : am_at am_m144 89 = some (.iconst 0, 1, 0) := rfl
theorem at_144_90 : am_at am_m144 90 = some (.invokevirtual 135, 3, 170) := rfl
theorem at_144_93 : am_at am_m144 93 = some (.ifCond .eq 98, 3, 0) := rfl
theorem at_144_96 : am_at am_m144 96 = some (.iconst 5, 1, 0) := rfl
theorem at_144_97 : am_at am_m144 97 = some (.ireturn, 1, 0) := rfl
theorem at_144_98 : am_at am_m144 98 = some (.aload 0, 1, 0) := rfl
theorem at_144_99 : am_at am_m144 99 = some (.iconst 99, 2, 1) := rfl
theorem at_144_101 : am_at am_m144 101 = some (.iconst 111, 2, 1) := rfl
theorem at_144_103 : am_at am_m144 103 = some (.iconst 110, 2, 1) := rfl
theorem at_144_105 : am_at am_m144 105 = some (.iconst 115, 2, 1) := rfl
theorem at_144_107 : am_at am_m144 107 = some (.iconst 0, 1, 0) := rfl
theorem at_144_108 : am_at am_m144 108 = some (.iconst 0, 1, 0) := rfl
theorem at_144_109 : am_at am_m144 109 = some (.invokevirtual 135, 3, 170) := rfl
theorem at_144_112 : am_at am_m144 112 = some (.ifCond .eq 118, 3, 0) := rfl
theorem at_144_115 : am_at am_m144 115 = some (.iconst 6, 2, 1) := rfl
theorem at_144_117 : am_at am_m144 117 = some (.ireturn, 1, 0) := rfl
theorem at_144_118 : am_at am_m144 118 = some (.aload 0, 1, 0) := rfl
theorem at_144_119 : am_at am_m144 119 = some (.iconst 99, 2, 1) := rfl
theorem at_144_121 : am_at am_m144 121 = some (.iconst 97, 2, 1) := rfl
theorem at_144_123 : am_at am_m144 123 = some (.iconst 114, 2, 1) := rfl
theorem at_144_125 : am_at am_m144 125 = some (.iconst 0, 1, 0) := rfl
theorem at_144_126 : am_at am_m144 126 = some (.iconst 0, 1, 0) := rfl
theorem at_144_127 : am_at am_m144 127 = some (.iconst 0, 1, 0) := rfl
theorem at_144_128 : am_at am_m144 128 = some (.invokevirtual 135, 3, 170) := rfl
theorem at_144_131 : am_at am_m144 131 = some (.ifCond .eq 137, 3, 0) := rfl
theorem at_144_134 : am_at am_m144 134 = some (.iconst 7, 2, 1) := rfl
theorem at_144_136 : am_at am_m144 136 = some (.ireturn, 1, 0) := rfl
theorem at_144_137 : am_at am_m144 137 = some (.aload 0, 1, 0) := rfl
theorem at_144_138 : am_at am_m144 138 = some (.iconst 99, 2, 1) := rfl
theorem at_144_140 : am_at am_m144 140 = some (.iconst 100, 2, 1) := rfl
theorem at_144_142 : am_at am_m144 142 = some (.iconst 114, 2, 1) := rfl
theorem at_144_144 : am_at am_m144 144 = some (.iconst 0, 1, 0) := rfl
theorem at_144_145 : am_at am_m144 145 = some (.iconst 0, 1, 0) := rfl
theorem at_144_146 : am_at am_m144 146 = some (.iconst 0, 1, 0) := rfl
theorem at_144_147 : am_at am_m144 147 = some (.invokevirtual 135, 3, 170) := rfl
theorem at_144_150 : am_at am_m144 150 = some (.ifCond .eq 156, 3, 0) := rfl
theorem at_144_153 : am_at am_m144 153 = some (.iconst 8, 2, 1) := rfl
theorem at_144_155 : am_at am_m144 155 = some (.ireturn, 1, 0) := rfl
theorem at_144_156 : am_at am_m144 156 = some (.aload 0, 1, 0) := rfl
theorem at_144_157 : am_at am_m144 157 = some (.iconst 112, 2, 1) := rfl
theorem at_144_159 : am_at am_m144 159 = some (.iconst 97, 2, 1) := rfl
theorem at_144_161 : am_at am_m144 161 = some (.iconst 105, 2, 1) := rfl
theorem at_144_163 : am_at am_m144 163 = some (.iconst 114, 2, 1) := rfl
theorem at_144_165 : am_at am_m144 165 = some (.iconst 63, 2, 1) := rfl
theorem at_144_167 : am_at am_m144 167 = some (.iconst 0, 1, 0) := rfl
theorem at_144_168 : am_at am_m144 168 = some (.invokevirtual 135, 3, 170) := rfl
theorem at_144_171 : am_at am_m144 171 = some (.ifCond .eq 177, 3, 0) := rfl
theorem at_144_174 : am_at am_m144 174 = some (.iconst 9, 2, 1) := rfl
theorem at_144_176 : am_at am_m144 176 = some (.ireturn, 1, 0) := rfl
theorem at_144_177 : am_at am_m144 177 = some (.aload 0, 1, 0) := rfl
theorem at_144_178 : am_at am_m144 178 = some (.iconst 110, 2, 1) := rfl
theorem at_144_180 : am_at am_m144 180 = some (.iconst 117, 2, 1) := rfl
theorem at_144_182 : am_at am_m144 182 = some (.iconst 108, 2, 1) := rfl
theorem at_144_184 : am_at am_m144 184 = some (.iconst 108, 2, 1) := rfl
theorem at_144_186 : am_at am_m144 186 = some (.iconst 63, 2, 1) := rfl
theorem at_144_188 : am_at am_m144 188 = some (.iconst 0, 1, 0) := rfl
theorem at_144_189 : am_at am_m144 189 = some (.invokevirtual 135, 3, 170) := rfl
theorem at_144_192 : am_at am_m144 192 = some (.ifCond .eq 198, 3, 0) := rfl
theorem at_144_195 : am_at am_m144 195 = some (.iconst 10, 2, 1) := rfl
theorem at_144_197 : am_at am_m144 197 = some (.ireturn, 1, 0) := rfl
theorem at_144_198 : am_at am_m144 198 = some (.aload 0, 1, 0) := rfl
theorem at_144_199 : am_at am_m144 199 = some (.iconst 110, 2, 1) := rfl
theorem at_144_201 : am_at am_m144 201 = some (.iconst 111, 2, 1) := rfl
theorem at_144_203 : am_at am_m144 203 = some (.iconst 116, 2, 1) := rfl
theorem at_144_205 : am_at am_m144 205 = some (.iconst 0, 1, 0) := rfl
theorem at_144_206 : am_at am_m144 206 = some (.iconst 0, 1, 0) := rfl
theorem at_144_207 : am_at am_m144 207 = some (.iconst 0, 1, 0) := rfl
theorem at_144_208 : am_at am_m144 208 = some (.invokevirtual 135, 3, 170) := rfl
theorem at_144_211 : am_at am_m144 211 = some (.ifCond .eq 217, 3, 0) := rfl
theorem at_144_214 : am_at am_m144 214 = some (.iconst 11, 2, 1) := rfl
theorem at_144_216 : am_at am_m144 216 = some (.ireturn, 1, 0) := rfl
theorem at_144_217 : am_at am_m144 217 = some (.aload 0, 1, 0) := rfl
theorem at_144_218 : am_at am_m144 218 = some (.iconst 111, 2, 1) := rfl
theorem at_144_220 : am_at am_m144 220 = some (.iconst 117, 2, 1) := rfl
theorem at_144_222 : am_at am_m144 222 = some (.iconst 116, 2, 1) := rfl
theorem at_144_224 : am_at am_m144 224 = some (.iconst 0, 1, 0) := rfl
theorem at_144_225 : am_at am_m144 225 = some (.iconst 0, 1, 0) := rfl
theorem at_144_226 : am_at am_m144 226 = some (.iconst 0, 1, 0) := rfl
theorem at_144_227 : am_at am_m144 227 = some (.invokevirtual 135, 3, 170) := rfl
theorem at_144_230 : am_at am_m144 230 = some (.ifCond .eq 238, 3, 0) := rfl
theorem at_144_233 : am_at am_m144 233 = some (.iconst 12, 2, 1) := rfl
theorem at_144_235 : am_at am_m144 235 = some (.goto 239, 3, 0) := rfl
theorem at_144_238 : am_at am_m144 238 = some (.iconst (-1), 1, 0) := rfl
theorem at_144_239 : am_at am_m144 239 = some (.ireturn, 1, 0) := rfl
def g_144 (S : amS) : amQ := az_bI (g_135 43 0 0 0 0 0 S) fun x1 S2 => if x1 = 0 then az_bI (g_135 45 0 0 0 0 0 S2) fun x3 S4 => if x3 = 0 then az_bI (g_135 42 0 0 0 0 0 S4) fun x5 S6 => if x5 = 0 then az_bI (g_135 60 0 0 0 0 0 S6) fun x7 S8 => if x7 = 0 then az_bI (g_135 61 0 0 0 0 0 S8) fun x9 S10 => if x9 = 0 then az_bI (g_135 101 113 63 0 0 0 S10) fun x11 S12 => if x11 = 0 then az_bI (g_135 99 111 110 115 0 0 S12) fun x13 S14 => if x13 = 0 then az_bI (g_135 99 97 114 0 0 0 S14) fun x15 S16 => if x15 = 0 then az_bI (g_135 99 100 114 0 0 0 S16) fun x17 S18 => if x17 = 0 then az_bI (g_135 112 97 105 114 63 0 S18) fun x19 S20 => if x19 = 0 then az_bI (g_135 110 117 108 108 63 0 S20) fun x21 S22 => if x21 = 0 then az_bI (g_135 110 111 116 0 0 0 S22) fun x23 S24 => if x23 = 0 then az_bI (g_135 111 117 116 0 0 0 S24) fun x25 S26 => if x25 = 0 then some (.inl (some (.int ((-1)))), S26) else some (.inl (some (.int 12)), S26) else some (.inl (some (.int 11)), S24) else some (.inl (some (.int 10)), S22) else some (.inl (some (.int 9)), S20) else some (.inl (some (.int 8)), S18) else some (.inl (some (.int 7)), S16) else some (.inl (some (.int 6)), S14) else some (.inl (some (.int 5)), S12) else some (.inl (some (.int 4)), S10) else some (.inl (some (.int 3)), S8) else some (.inl (some (.int 2)), S6) else some (.inl (some (.int 1)), S4) else some (.inl (some (.int 0)), S2)
theorem t_144 {X : amX} {d e : Nat} {S0 : amS} {u : Nat → Int64} (hd : 1 ≤ d)  (S : amS) : AW X d am_m144 (wm S0 u) e 0 [(0, .ref 34)] [] S (g_144 S) := by
  unfold g_144
  refine aw_aload at_144_0 rfl ?_
  refine aw_ic 43 at_144_1 ic_43 ?_
  refine aw_ic 0 at_144_3 ic_0 ?_
  refine aw_ic 0 at_144_4 ic_0 ?_
  refine aw_ic 0 at_144_5 ic_0 ?_
  refine aw_ic 0 at_144_6 ic_0 ?_
  refine aw_ic 0 at_144_7 ic_0 ?_
  refine aw_cI at_144_8 rfl (c_135 (by omega) _ _ _ _ _ _ _) (fun _ h => by cases h) rfl (fun x1 S2 => ?_)
  refine aw_if_eq at_144_11 ?_ ?_
  · refine aw_aload at_144_16 rfl ?_
    refine aw_ic 45 at_144_17 ic_45 ?_
    refine aw_ic 0 at_144_19 ic_0 ?_
    refine aw_ic 0 at_144_20 ic_0 ?_
    refine aw_ic 0 at_144_21 ic_0 ?_
    refine aw_ic 0 at_144_22 ic_0 ?_
    refine aw_ic 0 at_144_23 ic_0 ?_
    refine aw_cI at_144_24 rfl (c_135 (by omega) _ _ _ _ _ _ _) (fun _ h => by cases h) rfl (fun x3 S4 => ?_)
    refine aw_if_eq at_144_27 ?_ ?_
    · refine aw_aload at_144_32 rfl ?_
      refine aw_ic 42 at_144_33 ic_42 ?_
      refine aw_ic 0 at_144_35 ic_0 ?_
      refine aw_ic 0 at_144_36 ic_0 ?_
      refine aw_ic 0 at_144_37 ic_0 ?_
      refine aw_ic 0 at_144_38 ic_0 ?_
      refine aw_ic 0 at_144_39 ic_0 ?_
      refine aw_cI at_144_40 rfl (c_135 (by omega) _ _ _ _ _ _ _) (fun _ h => by cases h) rfl (fun x5 S6 => ?_)
      refine aw_if_eq at_144_43 ?_ ?_
      · refine aw_aload at_144_48 rfl ?_
        refine aw_ic 60 at_144_49 ic_60 ?_
        refine aw_ic 0 at_144_51 ic_0 ?_
        refine aw_ic 0 at_144_52 ic_0 ?_
        refine aw_ic 0 at_144_53 ic_0 ?_
        refine aw_ic 0 at_144_54 ic_0 ?_
        refine aw_ic 0 at_144_55 ic_0 ?_
        refine aw_cI at_144_56 rfl (c_135 (by omega) _ _ _ _ _ _ _) (fun _ h => by cases h) rfl (fun x7 S8 => ?_)
        refine aw_if_eq at_144_59 ?_ ?_
        · refine aw_aload at_144_64 rfl ?_
          refine aw_ic 61 at_144_65 ic_61 ?_
          refine aw_ic 0 at_144_67 ic_0 ?_
          refine aw_ic 0 at_144_68 ic_0 ?_
          refine aw_ic 0 at_144_69 ic_0 ?_
          refine aw_ic 0 at_144_70 ic_0 ?_
          refine aw_ic 0 at_144_71 ic_0 ?_
          refine aw_cI at_144_72 rfl (c_135 (by omega) _ _ _ _ _ _ _) (fun _ h => by cases h) rfl (fun x9 S10 => ?_)
          refine aw_if_eq at_144_75 ?_ ?_
          · refine aw_aload at_144_80 rfl ?_
            refine aw_ic 101 at_144_81 ic_101 ?_
            refine aw_ic 113 at_144_83 ic_113 ?_
            refine aw_ic 63 at_144_85 ic_63 ?_
            refine aw_ic 0 at_144_87 ic_0 ?_
            refine aw_ic 0 at_144_88 ic_0 ?_
            refine aw_ic 0 at_144_89 ic_0 ?_
            refine aw_cI at_144_90 rfl (c_135 (by omega) _ _ _ _ _ _ _) (fun _ h => by cases h) rfl (fun x11 S12 => ?_)
            refine aw_if_eq at_144_93 ?_ ?_
            · refine aw_aload at_144_98 rfl ?_
              refine aw_ic 99 at_144_99 ic_99 ?_
              refine aw_ic 111 at_144_101 ic_111 ?_
              refine aw_ic 110 at_144_103 ic_110 ?_
              refine aw_ic 115 at_144_105 ic_115 ?_
              refine aw_ic 0 at_144_107 ic_0 ?_
              refine aw_ic 0 at_144_108 ic_0 ?_
              refine aw_cI at_144_109 rfl (c_135 (by omega) _ _ _ _ _ _ _) (fun _ h => by cases h) rfl (fun x13 S14 => ?_)
              refine aw_if_eq at_144_112 ?_ ?_
              · refine aw_aload at_144_118 rfl ?_
                refine aw_ic 99 at_144_119 ic_99 ?_
                refine aw_ic 97 at_144_121 ic_97 ?_
                refine aw_ic 114 at_144_123 ic_114 ?_
                refine aw_ic 0 at_144_125 ic_0 ?_
                refine aw_ic 0 at_144_126 ic_0 ?_
                refine aw_ic 0 at_144_127 ic_0 ?_
                refine aw_cI at_144_128 rfl (c_135 (by omega) _ _ _ _ _ _ _) (fun _ h => by cases h) rfl (fun x15 S16 => ?_)
                refine aw_if_eq at_144_131 ?_ ?_
                · refine aw_aload at_144_137 rfl ?_
                  refine aw_ic 99 at_144_138 ic_99 ?_
                  refine aw_ic 100 at_144_140 ic_100 ?_
                  refine aw_ic 114 at_144_142 ic_114 ?_
                  refine aw_ic 0 at_144_144 ic_0 ?_
                  refine aw_ic 0 at_144_145 ic_0 ?_
                  refine aw_ic 0 at_144_146 ic_0 ?_
                  refine aw_cI at_144_147 rfl (c_135 (by omega) _ _ _ _ _ _ _) (fun _ h => by cases h) rfl (fun x17 S18 => ?_)
                  refine aw_if_eq at_144_150 ?_ ?_
                  · refine aw_aload at_144_156 rfl ?_
                    refine aw_ic 112 at_144_157 ic_112 ?_
                    refine aw_ic 97 at_144_159 ic_97 ?_
                    refine aw_ic 105 at_144_161 ic_105 ?_
                    refine aw_ic 114 at_144_163 ic_114 ?_
                    refine aw_ic 63 at_144_165 ic_63 ?_
                    refine aw_ic 0 at_144_167 ic_0 ?_
                    refine aw_cI at_144_168 rfl (c_135 (by omega) _ _ _ _ _ _ _) (fun _ h => by cases h) rfl (fun x19 S20 => ?_)
                    refine aw_if_eq at_144_171 ?_ ?_
                    · refine aw_aload at_144_177 rfl ?_
                      refine aw_ic 110 at_144_178 ic_110 ?_
                      refine aw_ic 117 at_144_180 ic_117 ?_
                      refine aw_ic 108 at_144_182 ic_108 ?_
                      refine aw_ic 108 at_144_184 ic_108 ?_
                      refine aw_ic 63 at_144_186 ic_63 ?_
                      refine aw_ic 0 at_144_188 ic_0 ?_
                      refine aw_cI at_144_189 rfl (c_135 (by omega) _ _ _ _ _ _ _) (fun _ h => by cases h) rfl (fun x21 S22 => ?_)
                      refine aw_if_eq at_144_192 ?_ ?_
                      · refine aw_aload at_144_198 rfl ?_
                        refine aw_ic 110 at_144_199 ic_110 ?_
                        refine aw_ic 111 at_144_201 ic_111 ?_
                        refine aw_ic 116 at_144_203 ic_116 ?_
                        refine aw_ic 0 at_144_205 ic_0 ?_
                        refine aw_ic 0 at_144_206 ic_0 ?_
                        refine aw_ic 0 at_144_207 ic_0 ?_
                        refine aw_cI at_144_208 rfl (c_135 (by omega) _ _ _ _ _ _ _) (fun _ h => by cases h) rfl (fun x23 S24 => ?_)
                        refine aw_if_eq at_144_211 ?_ ?_
                        · refine aw_aload at_144_217 rfl ?_
                          refine aw_ic 111 at_144_218 ic_111 ?_
                          refine aw_ic 117 at_144_220 ic_117 ?_
                          refine aw_ic 116 at_144_222 ic_116 ?_
                          refine aw_ic 0 at_144_224 ic_0 ?_
                          refine aw_ic 0 at_144_225 ic_0 ?_
                          refine aw_ic 0 at_144_226 ic_0 ?_
                          refine aw_cI at_144_227 rfl (c_135 (by omega) _ _ _ _ _ _ _) (fun _ h => by cases h) rfl (fun x25 S26 => ?_)
                          refine aw_if_eq at_144_230 ?_ ?_
                          · refine aw_ic (-1) at_144_238 ic_m1 ?_
                            exact aw_rI at_144_239 rfl
                          · refine aw_ic 12 at_144_233 ic_12 ?_
                            refine aw_goto at_144_235 ?_
                            exact aw_rI at_144_239 rfl
                        · refine aw_ic 11 at_144_214 ic_11 ?_
                          exact aw_rI at_144_216 rfl
                      · refine aw_ic 10 at_144_195 ic_10 ?_
                        exact aw_rI at_144_197 rfl
                    · refine aw_ic 9 at_144_174 ic_9 ?_
                      exact aw_rI at_144_176 rfl
                  · refine aw_ic 8 at_144_153 ic_8 ?_
                    exact aw_rI at_144_155 rfl
                · refine aw_ic 7 at_144_134 ic_7 ?_
                  exact aw_rI at_144_136 rfl
              · refine aw_ic 6 at_144_115 ic_6 ?_
                exact aw_rI at_144_117 rfl
            · refine aw_ic 5 at_144_96 ic_5 ?_
              exact aw_rI at_144_97 rfl
          · refine aw_ic 4 at_144_78 ic_4 ?_
            exact aw_rI at_144_79 rfl
        · refine aw_ic 3 at_144_62 ic_3 ?_
          exact aw_rI at_144_63 rfl
      · refine aw_ic 2 at_144_46 ic_2 ?_
        exact aw_rI at_144_47 rfl
    · refine aw_ic 1 at_144_30 ic_1 ?_
      exact aw_rI at_144_31 rfl
  · refine aw_ic 0 at_144_14 ic_0 ?_
    exact aw_rI at_144_15 rfl
theorem c_144 {X : amX} {d : Nat} {S0 : amS} {u : Nat → Int64} (hd : 2 ≤ d) (S : amS) : CW X d 144 [.ref 34] (wm S0 u) S (g_144 S) := cw_up (by omega) (fun d' h => by
  subst h
  exact cw_of rfl (by decide) (Nat.le_of_ble_eq_true rfl) rfl (fun e => t_144 (by omega) S))
/-! 145: ListDeskModel.push(I)V -/
theorem at_145_0 : am_at am_m145 0 = some (.aload 0, 1, 0) := rfl
theorem at_145_1 : am_at am_m145 1 = some (.dup, 1, 0) := rfl
theorem at_145_2 : am_at am_m145 2 = some (.getfield 923, 3, 167) := rfl
theorem at_145_5 : am_at am_m145 5 = some (.iconst 1, 1, 0) := rfl
theorem at_145_6 : am_at am_m145 6 = some (.iadd, 1, 0) := rfl
theorem at_145_7 : am_at am_m145 7 = some (.putfield 923, 3, 167) := rfl
theorem at_145_10 : am_at am_m145 10 = some (.aload 0, 1, 0) := rfl
theorem at_145_11 : am_at am_m145 11 = some (.getfield 920, 3, 51) := rfl
theorem at_145_14 : am_at am_m145 14 = some (.aload 0, 1, 0) := rfl
theorem at_145_15 : am_at am_m145 15 = some (.getfield 923, 3, 167) := rfl
theorem at_145_18 : am_at am_m145 18 = some (.iload 1, 1, 0) := rfl
theorem at_145_19 : am_at am_m145 19 = some (.iastore, 1, 0) := rfl
theorem at_145_20 : am_at am_m145 20 = some (.aload 0, 1, 0) := rfl
theorem at_145_21 : am_at am_m145 21 = some (.getfield 921, 3, 54) := rfl
theorem at_145_24 : am_at am_m145 24 = some (.aload 0, 1, 0) := rfl
theorem at_145_25 : am_at am_m145 25 = some (.getfield 923, 3, 167) := rfl
theorem at_145_28 : am_at am_m145 28 = some (.iconst 0, 1, 0) := rfl
theorem at_145_29 : am_at am_m145 29 = some (.bastore, 1, 0) := rfl
theorem at_145_30 : am_at am_m145 30 = some (.aload 0, 1, 0) := rfl
theorem at_145_31 : am_at am_m145 31 = some (.getfield 922, 3, 57) := rfl
theorem at_145_34 : am_at am_m145 34 = some (.aload 0, 1, 0) := rfl
theorem at_145_35 : am_at am_m145 35 = some (.getfield 923, 3, 167) := rfl
theorem at_145_38 : am_at am_m145 38 = some (.aload 0, 1, 0) := rfl
theorem at_145_39 : am_at am_m145 39 = some (.getfield 926, 3, 154) := rfl
theorem at_145_42 : am_at am_m145 42 = some (.iastore, 1, 0) := rfl
theorem at_145_43 : am_at am_m145 43 = some (.return_, 1, 0) := rfl
def g_145 (l1 : Int32) (S : amS) : amQ := az_st (sI S 34 23 ((S.1 34 23) + 1)) fun S1 => az_st (S1.1 34 23) fun x3 => az_ck x3 24 (az_st (sI S1 47 x3.toNatClampNeg l1) fun S4 => az_st (S4.1 34 23) fun x6 => az_ck x6 24 (az_st (sI S4 48 x6.toNatClampNeg (vp_nar .boolean 0)) fun S7 => az_st (S7.1 34 23) fun x9 => az_ck x9 24 (az_st (sI S7 49 x9.toNatClampNeg (S7.1 34 26)) fun S10 => some (.inl none, S10))))
theorem t_145 {X : amX} {d e : Nat} {S0 : amS} {u : Nat → Int64} (hd : 0 ≤ d)  (l1 : Int32) (S : amS) : AW X d am_m145 (wm S0 u) e 0 [(0, .ref 34), (1, .int l1)] [] S (g_145 l1 S) := by
  unfold g_145
  refine aw_aload at_145_0 rfl ?_
  refine aw_dupA at_145_1 ?_
  refine aw_getf at_145_2 gf_923 ?_
  refine aw_ic 1 at_145_5 ic_1 ?_
  refine aw_iadd at_145_6 ?_
  refine aw_putf at_145_7 (pf_923 _) (fun S1 => ?_)
  refine aw_aload at_145_10 rfl ?_
  refine aw_getf at_145_11 gf_920 ?_
  refine aw_aload at_145_14 rfl ?_
  refine aw_getf at_145_15 gf_923 ?_
  refine aw_iload at_145_18 rfl ?_
  refine aw_nameK (F := fun z => .int l1 :: .int z :: [.ref 47]) rfl (fun x3 => ?_)
  refine aw_iast at_145_19 ar_47 (as_47 _ _) (fun S4 => ?_)
  refine aw_aload at_145_20 rfl ?_
  refine aw_getf at_145_21 gf_921 ?_
  refine aw_aload at_145_24 rfl ?_
  refine aw_getf at_145_25 gf_923 ?_
  refine aw_ic 0 at_145_28 ic_0 ?_
  refine aw_nameK (F := fun z => .int 0 :: .int z :: [.ref 48]) rfl (fun x6 => ?_)
  refine aw_zast at_145_29 ar_48 (as_48 _ _) (fun S7 => ?_)
  refine aw_aload at_145_30 rfl ?_
  refine aw_getf at_145_31 gf_922 ?_
  refine aw_aload at_145_34 rfl ?_
  refine aw_getf at_145_35 gf_923 ?_
  refine aw_aload at_145_38 rfl ?_
  refine aw_getf at_145_39 gf_926 ?_
  refine aw_nameK (F := fun z => .int (S7.1 34 26) :: .int z :: [.ref 49]) rfl (fun x9 => ?_)
  refine aw_iast at_145_42 ar_49 (as_49 _ _) (fun S10 => ?_)
  exact aw_rV at_145_43 rfl
theorem c_145 {X : amX} {d : Nat} {S0 : amS} {u : Nat → Int64} (hd : 1 ≤ d) (l1 : Int32) (S : amS) : CW X d 145 [.ref 34, .int l1] (wm S0 u) S (g_145 l1 S) := cw_up (by omega) (fun d' h => by
  subst h
  exact cw_of rfl (by decide) (Nat.le_of_ble_eq_true rfl) rfl (fun e => t_145 (by omega) l1 S))
