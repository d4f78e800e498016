/-! 125: ListDesk.checkWay(I)V -/
theorem at_125_0 : am_at am_m125 0 = some (.iload 1, 1, 0) := rfl
theorem at_125_1 : am_at am_m125 1 = some (.iconst 1, 1, 0) := rfl
theorem at_125_2 : am_at am_m125 2 = some (.if_icmp .ge 15, 3, 0) := rfl
theorem at_125_5 : am_at am_m125 5 = some (.new 1000, 3, 7) := rfl
theorem at_125_15 : am_at am_m125 15 = some (.aload 0, 1, 0) := rfl
theorem at_125_16 : am_at am_m125 16 = some (.getfield 802, 3, 39) := rfl
theorem at_125_19 : am_at am_m125 19 = some (.getfield 10313, 3, 72) := rfl
theorem at_125_22 : am_at am_m125 22 = some (.iconst 1, 1, 0) := rfl
theorem at_125_23 : am_at am_m125 23 = some (.if_icmp .eq 36, 3, 0) := rfl
theorem at_125_26 : am_at am_m125 26 = some (.new 1001, 3, 8) := rfl
theorem at_125_36 : am_at am_m125 36 = some (.return_, 1, 0) := rfl
def g_125 (l1 : Int32) (S : amS) : amQ := if 1 ≤ l1 then if (S.1 24 13) = 1 then some (.inl none, S) else some (.inr 1, S) else some (.inr 0, S)
theorem t_125 {X : amX} {d e : Nat} {R : amS} {u : Nat → Int64} (hd : 0 ≤ d)  (l1 : Int32) (S : amS) : AW X d am_m125 (wc R u) e 0 [(0, .ref 0), (1, .int l1)] [] S (g_125 l1 S) := by
  unfold g_125
  refine aw_iload at_125_0 rfl ?_
  refine aw_ic 1 at_125_1 ic_1 ?_
  refine aw_icmp_ge at_125_2 ?_ ?_
  · refine aw_aload at_125_15 rfl ?_
    refine aw_getf at_125_16 gf_802 ?_
    refine aw_getf at_125_19 gf_10313 ?_
    refine aw_ic 1 at_125_22 ic_1 ?_
    refine aw_icmp_eq at_125_23 ?_ ?_
    · exact aw_rV at_125_36 rfl
    · exact aw_thr at_125_26 rfl rfl wc_ex
  · exact aw_thr at_125_5 rfl rfl wc_ex
theorem c_125 {X : amX} {d : Nat} {R : amS} {u : Nat → Int64} (hd : 1 ≤ d) (l1 : Int32) (S : amS) : CW X d 125 [.ref 0, .int l1] (wc R u) S (g_125 l1 S) := cw_up (by omega) (fun d' h => by
  subst h
  exact cw_of rfl (by decide) (Nat.le_of_ble_eq_true rfl) rfl (fun e => t_125 (by omega) l1 S))
/-! 123: ListDesk.kind(I)I -/
theorem at_123_0 : am_at am_m123 0 = some (.aload 0, 1, 0) := rfl
theorem at_123_1 : am_at am_m123 1 = some (.iload 1, 1, 0) := rfl
theorem at_123_2 : am_at am_m123 2 = some (.invokevirtual 125, 3, 127) := rfl
theorem at_123_5 : am_at am_m123 5 = some (.aload 0, 1, 0) := rfl
theorem at_123_6 : am_at am_m123 6 = some (.getfield 802, 3, 39) := rfl
theorem at_123_9 : am_at am_m123 9 = some (.iload 1, 1, 0) := rfl
theorem at_123_10 : am_at am_m123 10 = some (.invokevirtual 53, 3, 131) := rfl
theorem at_123_13 : am_at am_m123 13 = some (.lstore 2, 1, 0) := rfl
theorem at_123_14 : am_at am_m123 14 = some (.lload 2, 1, 0) := rfl
theorem at_123_15 : am_at am_m123 15 = some (.jsr_w 21474836480, 3, 137) := rfl
theorem at_123_18 : am_at am_m123 18 = some (.lcmp, 1, 0) := rfl
theorem at_123_19 : am_at am_m123 19 = some (.ifCond .ne 26, 3, 0) := rfl
theorem at_123_22 : am_at am_m123 22 = some (.iconst (-1), 1, 0) := rfl
theorem at_123_23 : am_at am_m123 23 = some (.goto 30, 3, 0) := rfl
theorem at_123_26 : am_at am_m123 26 = some (.lload 2, 1, 0) := rfl
theorem at_123_27 : am_at am_m123 27 = some (.invokestatic 112, 3, 139) := rfl
theorem at_123_30 : am_at am_m123 30 = some (.ireturn, 1, 0) := rfl
def g_123 (n : Nat) (l1 : Int32) (S : amS) : amQ := az_bV (g_125 l1 S) fun S1 => az_bJ (g_53 n l1 S1) fun x2 S3 => if (lg_cmp x2 21474836480) = 0 then some (.inl (some (.int ((-1)))), S3) else az_bI (g_112 x2 S3) fun x4 S5 => some (.inl (some (.int x4)), S5)
theorem t_123 {X : amX} {d e : Nat} {R : amS} {u : Nat → Int64} (hd : 3 ≤ d) (n : Nat)  (l1 : Int32) (S : amS) : AW X d am_m123 (wc R u) e 0 [(0, .ref 0), (1, .int l1)] [] S (g_123 n l1 S) := by
  unfold g_123
  refine aw_aload at_123_0 rfl ?_
  refine aw_iload at_123_1 rfl ?_
  refine aw_cV at_123_2 rfl (c_125 (by omega) _ _) (fun _ h => by cases h) rfl (fun S1 => ?_)
  refine aw_aload at_123_5 rfl ?_
  refine aw_getf at_123_6 gf_802 ?_
  refine aw_iload at_123_9 rfl ?_
  refine aw_cJ at_123_10 rfl (c_53 (by omega) n _ _) (fun _ h => by cases h) rfl (fun x2 S3 => ?_)
  refine aw_lstore at_123_13 (by decide) rfl rfl ?_
  refine aw_lload at_123_14 rfl ?_
  refine aw_lc 21474836480 at_123_15 (by decide) ?_
  refine aw_lcmp at_123_18 ?_
  refine aw_if_ne at_123_19 ?_ ?_
  · refine aw_lload at_123_26 rfl ?_
    refine aw_cI at_123_27 rfl (c_112 (by omega) _ _) (fun _ h => by cases h) rfl (fun x4 S5 => ?_)
    exact aw_rI at_123_30 rfl
  · refine aw_ic (-1) at_123_22 ic_m1 ?_
    refine aw_goto at_123_23 ?_
    exact aw_rI at_123_30 rfl
theorem c_123 {X : amX} {d : Nat} {R : amS} {u : Nat → Int64} (hd : 4 ≤ d) (n : Nat) (l1 : Int32) (S : amS) : CW X d 123 [.ref 0, .int l1] (wc R u) S (g_123 n l1 S) := cw_up (by omega) (fun d' h => by
  subst h
  exact cw_of rfl (by decide) (Nat.le_of_ble_eq_true rfl) rfl (fun e => t_123 (by omega) n l1 S))
/-! 124: ListDesk.number(I)I -/
theorem at_124_0 : am_at am_m124 0 = some (.aload 0, 1, 0) := rfl
theorem at_124_1 : am_at am_m124 1 = some (.iload 1, 1, 0) := rfl
theorem at_124_2 : am_at am_m124 2 = some (.invokevirtual 125, 3, 127) := rfl
theorem at_124_5 : am_at am_m124 5 = some (.aload 0, 1, 0) := rfl
theorem at_124_6 : am_at am_m124 6 = some (.getfield 802, 3, 39) := rfl
theorem at_124_9 : am_at am_m124 9 = some (.iload 1, 1, 0) := rfl
theorem at_124_10 : am_at am_m124 10 = some (.invokevirtual 53, 3, 131) := rfl
theorem at_124_13 : am_at am_m124 13 = some (.lstore 2, 1, 0) := rfl
theorem at_124_14 : am_at am_m124 14 = some (.lload 2, 1, 0) := rfl
theorem at_124_15 : am_at am_m124 15 = some (.invokestatic 112, 3, 139) := rfl
theorem at_124_18 : am_at am_m124 18 = some (.ifCond .ne 28, 3, 0) := rfl
theorem at_124_21 : am_at am_m124 21 = some (.lload 2, 1, 0) := rfl
theorem at_124_22 : am_at am_m124 22 = some (.invokestatic 113, 3, 143) := rfl
theorem at_124_25 : am_at am_m124 25 = some (.goto 29, 3, 0) := rfl
theorem at_124_28 : am_at am_m124 28 = some (.iconst 0, 1, 0) := rfl
theorem at_124_29 : am_at am_m124 29 = some (.ireturn, 1, 0) := rfl
def g_124 (n : Nat) (l1 : Int32) (S : amS) : amQ := az_bV (g_125 l1 S) fun S1 => az_bJ (g_53 n l1 S1) fun x2 S3 => az_bI (g_112 x2 S3) fun x4 S5 => if x4 = 0 then az_bI (g_113 x2 S5) fun x6 S7 => some (.inl (some (.int x6)), S7) else some (.inl (some (.int 0)), S5)
theorem t_124 {X : amX} {d e : Nat} {R : amS} {u : Nat → Int64} (hd : 3 ≤ d) (n : Nat)  (l1 : Int32) (S : amS) : AW X d am_m124 (wc R u) e 0 [(0, .ref 0), (1, .int l1)] [] S (g_124 n l1 S) := by
  unfold g_124
  refine aw_aload at_124_0 rfl ?_
  refine aw_iload at_124_1 rfl ?_
  refine aw_cV at_124_2 rfl (c_125 (by omega) _ _) (fun _ h => by cases h) rfl (fun S1 => ?_)
  refine aw_aload at_124_5 rfl ?_
  refine aw_getf at_124_6 gf_802 ?_
  refine aw_iload at_124_9 rfl ?_
  refine aw_cJ at_124_10 rfl (c_53 (by omega) n _ _) (fun _ h => by cases h) rfl (fun x2 S3 => ?_)
  refine aw_lstore at_124_13 (by decide) rfl rfl ?_
  refine aw_lload at_124_14 rfl ?_
  refine aw_cI at_124_15 rfl (c_112 (by omega) _ _) (fun _ h => by cases h) rfl (fun x4 S5 => ?_)
  refine aw_if_ne at_124_18 ?_ ?_
  · refine aw_ic 0 at_124_28 ic_0 ?_
    exact aw_rI at_124_29 rfl
  · refine aw_lload at_124_21 rfl ?_
    refine aw_cI at_124_22 rfl (c_113 (by omega) _ _) (fun _ h => by cases h) rfl (fun x6 S7 => ?_)
    refine aw_goto at_124_25 ?_
    exact aw_rI at_124_29 rfl
theorem c_124 {X : amX} {d : Nat} {R : amS} {u : Nat → Int64} (hd : 4 ≤ d) (n : Nat) (l1 : Int32) (S : amS) : CW X d 124 [.ref 0, .int l1] (wc R u) S (g_124 n l1 S) := cw_up (by omega) (fun d' h => by
  subst h
  exact cw_of rfl (by decide) (Nat.le_of_ble_eq_true rfl) rfl (fun e => t_124 (by omega) n l1 S))
