/-! 1: ListDesk$Code.clear()V -/
theorem at_1_0 : am_at am_m1 0 = some (.aload 0, 1, 0) := rfl
theorem at_1_1 : am_at am_m1 1 = some (.iconst 0, 1, 0) := rfl
theorem at_1_2 : am_at am_m1 2 = some (.putfield 3, 3, 21) := rfl
theorem at_1_5 : am_at am_m1 5 = some (.return_, 1, 0) := rfl
def g_1 (S : amS) : amQ := az_st (sI S 1 3 0) fun S1 => some (.inl none, S1)
theorem t_1 {X : amX} {d e : Nat} {R : amS} {u : Nat → Int64} (hd : 0 ≤ d)  (S : amS) : AW X d am_m1 (wc R u) e 0 [(0, .ref 1)] [] S (g_1 S) := by
  unfold g_1
  refine aw_aload at_1_0 rfl ?_
  refine aw_ic 0 at_1_1 ic_0 ?_
  refine aw_putf at_1_2 (pf_3 _) (fun S1 => ?_)
  exact aw_rV at_1_5 rfl
theorem c_1 {X : amX} {d : Nat} {R : amS} {u : Nat → Int64} (hd : 1 ≤ d) (S : amS) : CW X d 1 [.ref 1] (wc R u) S (g_1 S) := cw_up (by omega) (fun d' h => by
  subst h
  exact cw_of rfl (by decide) (Nat.le_of_ble_eq_true rfl) rfl (fun e => t_1 (by omega) S))
/-! 2: ListDesk$Code.add(III)I -/
theorem at_2_0 : am_at am_m2 0 = some (.aload 0, 1, 0) := rfl
theorem at_2_1 : am_at am_m2 1 = some (.getfield 3, 3, 21) := rfl
theorem at_2_4 : am_at am_m2 4 = some (.istore 4, 2, 0) := rfl
theorem at_2_6 : am_at am_m2 6 = some (.aload 0, 1, 0) := rfl
theorem at_2_7 : am_at am_m2 7 = some (.getfield 0, 3, 11) := rfl
theorem at_2_10 : am_at am_m2 10 = some (.iload 4, 2, 0) := rfl
theorem at_2_12 : am_at am_m2 12 = some (.iload 1, 1, 0) := rfl
theorem at_2_13 : am_at am_m2 13 = some (.invokestatic 95, 3, 25) := rfl
theorem at_2_16 : am_at am_m2 16 = some (.aload 0, 1, 0) := rfl
theorem at_2_17 : am_at am_m2 17 = some (.getfield 1, 3, 15) := rfl
theorem at_2_20 : am_at am_m2 20 = some (.iload 4, 2, 0) := rfl
theorem at_2_22 : am_at am_m2 22 = some (.iload 2, 1, 0) := rfl
theorem at_2_23 : am_at am_m2 23 = some (.invokestatic 95, 3, 25) := rfl
theorem at_2_26 : am_at am_m2 26 = some (.aload 0, 1, 0) := rfl
theorem at_2_27 : am_at am_m2 27 = some (.getfield 2, 3, 18) := rfl
theorem at_2_30 : am_at am_m2 30 = some (.iload 4, 2, 0) := rfl
theorem at_2_32 : am_at am_m2 32 = some (.iload 3, 1, 0) := rfl
theorem at_2_33 : am_at am_m2 33 = some (.invokestatic 95, 3, 25) := rfl
theorem at_2_36 : am_at am_m2 36 = some (.aload 0, 1, 0) := rfl
theorem at_2_37 : am_at am_m2 37 = some (.dup, 1, 0) := rfl
theorem at_2_38 : am_at am_m2 38 = some (.getfield 3, 3, 21) := rfl
theorem at_2_41 : am_at am_m2 41 = some (.iconst 1, 1, 0) := rfl
theorem at_2_42 : am_at am_m2 42 = some (.iadd, 1, 0) := rfl
theorem at_2_43 : am_at am_m2 43 = some (.putfield 3, 3, 21) := rfl
theorem at_2_46 : am_at am_m2 46 = some (.iload 4, 2, 0) := rfl
theorem at_2_48 : am_at am_m2 48 = some (.ireturn, 1, 0) := rfl
def g_2 (l1 : Int32) (l2 : Int32) (l3 : Int32) (S : amS) : amQ := az_st (S.1 1 3) fun x1 => az_st (sR S 2 502 x1 l1) fun S2 => az_st (sR S2 3 502 x1 l2) fun S3 => az_st (sR S3 4 502 x1 l3) fun S4 => az_st (sI S4 1 3 ((S4.1 1 3) + 1)) fun S5 => some (.inl (some (.int x1)), S5)
theorem t_2 {X : amX} {d e : Nat} {R : amS} {u : Nat → Int64} (hd : 1 ≤ d)  (l1 : Int32) (l2 : Int32) (l3 : Int32) (S : amS) : AW X d am_m2 (wc R u) e 0 [(0, .ref 1), (1, .int l1), (2, .int l2), (3, .int l3)] [] S (g_2 l1 l2 l3 S) := by
  unfold g_2
  refine aw_aload at_2_0 rfl ?_
  refine aw_getf at_2_1 gf_3 ?_
  refine aw_nameI (fun x1 => ?_)
  refine aw_istore at_2_4 (by decide) rfl rfl ?_
  refine aw_aload at_2_6 rfl ?_
  refine aw_getf at_2_7 gf_0 ?_
  refine aw_iload at_2_10 rfl ?_
  refine aw_iload at_2_12 rfl ?_
  refine aw_pV at_2_13 rfl (cw_95 (by omega) (by decide) (fun e => ar_2) (fun e => al_2) (fun e k x => as_2 k x)) (fun S2 => ?_)
  refine aw_aload at_2_16 rfl ?_
  refine aw_getf at_2_17 gf_1 ?_
  refine aw_iload at_2_20 rfl ?_
  refine aw_iload at_2_22 rfl ?_
  refine aw_pV at_2_23 rfl (cw_95 (by omega) (by decide) (fun e => ar_3) (fun e => al_3) (fun e k x => as_3 k x)) (fun S3 => ?_)
  refine aw_aload at_2_26 rfl ?_
  refine aw_getf at_2_27 gf_2 ?_
  refine aw_iload at_2_30 rfl ?_
  refine aw_iload at_2_32 rfl ?_
  refine aw_pV at_2_33 rfl (cw_95 (by omega) (by decide) (fun e => ar_4) (fun e => al_4) (fun e k x => as_4 k x)) (fun S4 => ?_)
  refine aw_aload at_2_36 rfl ?_
  refine aw_dupA at_2_37 ?_
  refine aw_getf at_2_38 gf_3 ?_
  refine aw_ic 1 at_2_41 ic_1 ?_
  refine aw_iadd at_2_42 ?_
  refine aw_putf at_2_43 (pf_3 _) (fun S5 => ?_)
  refine aw_iload at_2_46 rfl ?_
  exact aw_rI at_2_48 rfl
theorem c_2 {X : amX} {d : Nat} {R : amS} {u : Nat → Int64} (hd : 2 ≤ d) (l1 : Int32) (l2 : Int32) (l3 : Int32) (S : amS) : CW X d 2 [.ref 1, .int l1, .int l2, .int l3] (wc R u) S (g_2 l1 l2 l3 S) := cw_up (by omega) (fun d' h => by
  subst h
  exact cw_of rfl (by decide) (Nat.le_of_ble_eq_true rfl) rfl (fun e => t_2 (by omega) l1 l2 l3 S))
/-! 3: ListDesk$Code.jumpToHere(I)V -/
theorem at_3_0 : am_at am_m3 0 = some (.aload 0, 1, 0) := rfl
theorem at_3_1 : am_at am_m3 1 = some (.getfield 1, 3, 15) := rfl
theorem at_3_4 : am_at am_m3 4 = some (.iload 1, 1, 0) := rfl
theorem at_3_5 : am_at am_m3 5 = some (.aload 0, 1, 0) := rfl
theorem at_3_6 : am_at am_m3 6 = some (.getfield 3, 3, 21) := rfl
theorem at_3_9 : am_at am_m3 9 = some (.invokestatic 95, 3, 25) := rfl
theorem at_3_12 : am_at am_m3 12 = some (.return_, 1, 0) := rfl
def g_3 (l1 : Int32) (S : amS) : amQ := az_st (sR S 3 502 l1 (S.1 1 3)) fun S1 => some (.inl none, S1)
theorem t_3 {X : amX} {d e : Nat} {R : amS} {u : Nat → Int64} (hd : 1 ≤ d)  (l1 : Int32) (S : amS) : AW X d am_m3 (wc R u) e 0 [(0, .ref 1), (1, .int l1)] [] S (g_3 l1 S) := by
  unfold g_3
  refine aw_aload at_3_0 rfl ?_
  refine aw_getf at_3_1 gf_1 ?_
  refine aw_iload at_3_4 rfl ?_
  refine aw_aload at_3_5 rfl ?_
  refine aw_getf at_3_6 gf_3 ?_
  refine aw_pV at_3_9 rfl (cw_95 (by omega) (by decide) (fun e => ar_3) (fun e => al_3) (fun e k x => as_3 k x)) (fun S1 => ?_)
  exact aw_rV at_3_12 rfl
theorem c_3 {X : amX} {d : Nat} {R : amS} {u : Nat → Int64} (hd : 2 ≤ d) (l1 : Int32) (S : amS) : CW X d 3 [.ref 1, .int l1] (wc R u) S (g_3 l1 S) := cw_up (by omega) (fun d' h => by
  subst h
  exact cw_of rfl (by decide) (Nat.le_of_ble_eq_true rfl) rfl (fun e => t_3 (by omega) l1 S))
/-! 4: ListDesk$Code.orderAt(I)I -/
theorem at_4_0 : am_at am_m4 0 = some (.aload 0, 1, 0) := rfl
theorem at_4_1 : am_at am_m4 1 = some (.getfield 0, 3, 11) := rfl
theorem at_4_4 : am_at am_m4 4 = some (.iload 1, 1, 0) := rfl
theorem at_4_5 : am_at am_m4 5 = some (.invokestatic 94, 3, 31) := rfl
theorem at_4_8 : am_at am_m4 8 = some (.ireturn, 1, 0) := rfl
def g_4 (l1 : Int32) (S : amS) : amQ := some (.inl (some (.int (az_rg 502 (S.1 2) l1))), S)
theorem t_4 {X : amX} {d e : Nat} {R : amS} {u : Nat → Int64} (hd : 1 ≤ d)  (l1 : Int32) (S : amS) : AW X d am_m4 (wc R u) e 0 [(0, .ref 1), (1, .int l1)] [] S (g_4 l1 S) := by
  unfold g_4
  refine aw_aload at_4_0 rfl ?_
  refine aw_getf at_4_1 gf_0 ?_
  refine aw_iload at_4_4 rfl ?_
  refine aw_pI at_4_5 rfl (cw_94 (by omega) (by decide) (fun e => ai_2) (fun e => al_2)) ?_
  exact aw_rI at_4_8 rfl
theorem c_4 {X : amX} {d : Nat} {R : amS} {u : Nat → Int64} (hd : 2 ≤ d) (l1 : Int32) (S : amS) : CW X d 4 [.ref 1, .int l1] (wc R u) S (g_4 l1 S) := cw_up (by omega) (fun d' h => by
  subst h
  exact cw_of rfl (by decide) (Nat.le_of_ble_eq_true rfl) rfl (fun e => t_4 (by omega) l1 S))
/-! 6: ListDesk$Code.leadsToReturn(I)Z -/
theorem at_6_0 : am_at am_m6 0 = some (.iload 1, 1, 0) := rfl
theorem at_6_1 : am_at am_m6 1 = some (.istore 2, 1, 0) := rfl
theorem at_6_2 : am_at am_m6 2 = some (.iconst 0, 1, 0) := rfl
theorem at_6_3 : am_at am_m6 3 = some (.istore 3, 1, 0) := rfl
theorem at_6_4 : am_at am_m6 4 = some (.iload 3, 1, 0) := rfl
theorem at_6_5 : am_at am_m6 5 = some (.aload 0, 1, 0) := rfl
theorem at_6_6 : am_at am_m6 6 = some (.getfield 3, 3, 21) := rfl
theorem at_6_9 : am_at am_m6 9 = some (.if_icmp .ge 70, 3, 0) := rfl
theorem at_6_12 : am_at am_m6 12 = some (.aload 0, 1, 0) := rfl
theorem at_6_13 : am_at am_m6 13 = some (.iload 2, 1, 0) := rfl
theorem at_6_14 : am_at am_m6 14 = some (.invokevirtual 4, 3, 35) := rfl
theorem at_6_17 : am_at am_m6 17 = some (.istore 4, 2, 0) := rfl
theorem at_6_19 : am_at am_m6 19 = some (.iload 4, 2, 0) := rfl
theorem at_6_21 : am_at am_m6 21 = some (.iconst 9, 2, 1) := rfl
theorem at_6_23 : am_at am_m6 23 = some (.if_icmp .ne 38, 3, 0) := rfl
theorem at_6_26 : am_at am_m6 26 = some (.aload 0, 1, 0) := rfl
theorem at_6_27 : am_at am_m6 27 = some (.getfield 1, 3, 15) := rfl
theorem at_6_30 : am_at am_m6 30 = some (.iload 2, 1, 0) := rfl
theorem at_6_31 : am_at am_m6 31 = some (.invokestatic 94, 3, 31) := rfl
theorem at_6_34 : am_at am_m6 34 = some (.istore 2, 1, 0) := rfl
theorem at_6_35 : am_at am_m6 35 = some (.goto 64, 3, 0) := rfl
theorem at_6_38 : am_at am_m6 38 = some (.iload 4, 2, 0) := rfl
theorem at_6_40 : am_at am_m6 40 = some (.iconst 13, 2, 1) := rfl
theorem at_6_42 : am_at am_m6 42 = some (.if_icmp .ne 51, 3, 0) := rfl
theorem at_6_45 : am_at am_m6 45 = some (.iinc 2 1, 3, 0) := rfl
theorem at_6_48 : am_at am_m6 48 = some (.goto 64, 3, 0) := rfl
theorem at_6_51 : am_at am_m6 51 = some (.iload 4, 2, 0) := rfl
theorem at_6_53 : am_at am_m6 53 = some (.iconst 16, 2, 1) := rfl
theorem at_6_55 : am_at am_m6 55 = some (.if_icmp .ne 62, 3, 0) := rfl
theorem at_6_58 : am_at am_m6 58 = some (.iconst 1, 1, 0) := rfl
theorem at_6_59 : am_at am_m6 59 = some (.goto 63, 3, 0) := rfl
theorem at_6_62 : am_at am_m6 62 = some (.iconst 0, 1, 0) := rfl
theorem at_6_63 : am_at am_m6 63 = some (.ireturn, 1, 0) := rfl
theorem at_6_64 : am_at am_m6 64 = some (.iinc 3 1, 3, 0) := rfl
theorem at_6_67 : am_at am_m6 67 = some (.goto 4, 3, 0) := rfl
theorem at_6_70 : am_at am_m6 70 = some (.iconst 0, 1, 0) := rfl
theorem at_6_71 : am_at am_m6 71 = some (.ireturn, 1, 0) := rfl
def g_6_64 (n : Nat) (H4 : Int32 → Int32 → amS → amQ) (l2 : Int32) (l3 : Int32) (S : amS) : amQ := H4 l2 (l3 + 1) S
theorem t_6_64 {X : amX} {d e : Nat} {R : amS} {u : Nat → Int64} {H4 : Int32 → Int32 → amS → amQ} (hd : 2 ≤ d) (n : Nat) (hH4 : ∀ (l2 : Int32) (l3 : Int32) (S : amS), AW X d am_m6 (wc R u) e 4 [(0, .ref 1), (2, .int l2), (3, .int l3)] [] S (H4 l2 l3 S)) (l2 : Int32) (l3 : Int32) (S : amS) : AW X d am_m6 (wc R u) e 64 [(0, .ref 1), (2, .int l2), (3, .int l3)] [] S (g_6_64 n H4 l2 l3 S) := by
  unfold g_6_64
  refine aw_iinc at_6_64 rfl (by decide) rfl ic_1 rfl ?_
  refine aw_goto at_6_67 ?_
  exact aw_sub (al_cons rfl (al_cons rfl (al_cons rfl al_nil))) (hH4 l2 (l3 + 1) S)
def h_6_4 (n : Nat) (H4 : Int32 → Int32 → amS → amQ) (l2 : Int32) (l3 : Int32) (S : amS) : amQ := if (S.1 1 3) ≤ l3 then some (.inl (some (.int 0)), S) else az_bI (g_4 l2 S) fun x1 S2 => if x1 = 9 then az_st (az_rg 502 (S2.1 3) l2) fun x3 => g_6_64 n H4 x3 l3 S2 else if x1 = 13 then g_6_64 n H4 (l2 + 1) l3 S2 else if x1 = 16 then some (.inl (some (.int 1)), S2) else some (.inl (some (.int 0)), S2)
def g_6_4 : Nat → Int32 → Int32 → amS → amQ
  | 0 => fun _ _ _ => none
  | n + 1 => h_6_4 n (g_6_4 n)
theorem th_6_4 {X : amX} {d e : Nat} {R : amS} {u : Nat → Int64} {H4 : Int32 → Int32 → amS → amQ} (hd : 2 ≤ d) (n : Nat) (hH4 : ∀ (l2 : Int32) (l3 : Int32) (S : amS), AW X d am_m6 (wc R u) e 4 [(0, .ref 1), (2, .int l2), (3, .int l3)] [] S (H4 l2 l3 S)) (l2 : Int32) (l3 : Int32)  (S : amS) : AW X d am_m6 (wc R u) e 4 [(0, .ref 1), (2, .int l2), (3, .int l3)] [] S (h_6_4 n H4 l2 l3 S) := by
  unfold h_6_4
  refine aw_iload at_6_4 rfl ?_
  refine aw_aload at_6_5 rfl ?_
  refine aw_getf at_6_6 gf_3 ?_
  refine aw_icmp_ge at_6_9 ?_ ?_
  · refine aw_ic 0 at_6_70 ic_0 ?_
    exact aw_rZ at_6_71 rfl (Or.inl rfl)
  · refine aw_aload at_6_12 rfl ?_
    refine aw_iload at_6_13 rfl ?_
    refine aw_cI at_6_14 rfl (c_4 (by omega) _ _) (fun _ h => by cases h) rfl (fun x1 S2 => ?_)
    refine aw_istore at_6_17 (by decide) rfl rfl ?_
    refine aw_iload at_6_19 rfl ?_
    refine aw_ic 9 at_6_21 ic_9 ?_
    refine aw_icmp_ne at_6_23 ?_ ?_
    · refine aw_iload at_6_38 rfl ?_
      refine aw_ic 13 at_6_40 ic_13 ?_
      refine aw_icmp_ne at_6_42 ?_ ?_
      · refine aw_iload at_6_51 rfl ?_
        refine aw_ic 16 at_6_53 ic_16 ?_
        refine aw_icmp_ne at_6_55 ?_ ?_
        · refine aw_ic 0 at_6_62 ic_0 ?_
          exact aw_rZ at_6_63 rfl (Or.inl rfl)
        · refine aw_ic 1 at_6_58 ic_1 ?_
          refine aw_goto at_6_59 ?_
          exact aw_rZ at_6_63 rfl (Or.inr rfl)
      · refine aw_iinc at_6_45 rfl (by decide) rfl ic_1 rfl ?_
        refine aw_goto at_6_48 ?_
        exact aw_sub (al_cons rfl (al_cons rfl (al_cons rfl al_nil))) (t_6_64 (by omega) n hH4 (l2 + 1) l3 S2)
    · refine aw_aload at_6_26 rfl ?_
      refine aw_getf at_6_27 gf_1 ?_
      refine aw_iload at_6_30 rfl ?_
      refine aw_pI at_6_31 rfl (cw_94 (by omega) (by decide) (fun e => ai_3) (fun e => al_3)) ?_
      refine aw_nameI (fun x3 => ?_)
      refine aw_istore at_6_34 (by decide) rfl rfl ?_
      refine aw_goto at_6_35 ?_
      exact aw_sub (al_cons rfl (al_cons rfl (al_cons rfl al_nil))) (t_6_64 (by omega) n hH4 x3 l3 S2)
theorem t_6_4 {X : amX} {d e : Nat} {R : amS} {u : Nat → Int64} (hd : 2 ≤ d) : ∀ (n : Nat)  (l2 : Int32) (l3 : Int32) (S : amS), AW X d am_m6 (wc R u) e 4 [(0, .ref 1), (2, .int l2), (3, .int l3)] [] S (g_6_4 n l2 l3 S)
  | 0, _, _, _ => aw_none
  | n + 1, l2, l3, S => th_6_4 hd n (t_6_4 hd n) l2 l3 S
def g_6 (n : Nat) (l1 : Int32) (S : amS) : amQ := g_6_4 n l1 0 S
theorem t_6 {X : amX} {d e : Nat} {R : amS} {u : Nat → Int64} (hd : 2 ≤ d) (n : Nat)  (l1 : Int32) (S : amS) : AW X d am_m6 (wc R u) e 0 [(0, .ref 1), (1, .int l1)] [] S (g_6 n l1 S) := by
  unfold g_6
  refine aw_iload at_6_0 rfl ?_
  refine aw_istore at_6_1 (by decide) rfl rfl ?_
  refine aw_ic 0 at_6_2 ic_0 ?_
  refine aw_istore at_6_3 (by decide) rfl rfl ?_
  exact aw_sub (al_cons rfl (al_cons rfl (al_cons rfl al_nil))) (t_6_4 (by omega) n l1 0 S)
theorem c_6 {X : amX} {d : Nat} {R : amS} {u : Nat → Int64} (hd : 3 ≤ d) (n : Nat) (l1 : Int32) (S : amS) : CW X d 6 [.ref 1, .int l1] (wc R u) S (g_6 n l1 S) := cw_up (by omega) (fun d' h => by
  subst h
  exact cw_of rfl (by decide) (Nat.le_of_ble_eq_true rfl) rfl (fun e => t_6 (by omega) n l1 S))
/-! 5: ListDesk$Code.markCallsAtEnd()V -/
theorem at_5_0 : am_at am_m5 0 = some (.iconst 0, 1, 0) := rfl
theorem at_5_1 : am_at am_m5 1 = some (.istore 1, 1, 0) := rfl
theorem at_5_2 : am_at am_m5 2 = some (.iload 1, 1, 0) := rfl
theorem at_5_3 : am_at am_m5 3 = some (.aload 0, 1, 0) := rfl
theorem at_5_4 : am_at am_m5 4 = some (.getfield 3, 3, 21) := rfl
theorem at_5_7 : am_at am_m5 7 = some (.if_icmp .ge 46, 3, 0) := rfl
theorem at_5_10 : am_at am_m5 10 = some (.aload 0, 1, 0) := rfl
theorem at_5_11 : am_at am_m5 11 = some (.iload 1, 1, 0) := rfl
theorem at_5_12 : am_at am_m5 12 = some (.invokevirtual 4, 3, 35) := rfl
theorem at_5_15 : am_at am_m5 15 = some (.iconst 14, 2, 1) := rfl
theorem at_5_17 : am_at am_m5 17 = some (.if_icmp .ne 40, 3, 0) := rfl
theorem at_5_20 : am_at am_m5 20 = some (.aload 0, 1, 0) := rfl
theorem at_5_21 : am_at am_m5 21 = some (.iload 1, 1, 0) := rfl
theorem at_5_22 : am_at am_m5 22 = some (.iconst 1, 1, 0) := rfl
theorem at_5_23 : am_at am_m5 23 = some (.iadd, 1, 0) := rfl
theorem at_5_24 : am_at am_m5 24 = some (.invokevirtual 6, 3, 39) := rfl
theorem at_5_27 : am_at am_m5 27 = some (.ifCond .eq 40, 3, 0) := rfl
theorem at_5_30 : am_at am_m5 30 = some (.aload 0, 1, 0) := rfl
theorem at_5_31 : am_at am_m5 31 = some (.getfield 0, 3, 11) := rfl
theorem at_5_34 : am_at am_m5 34 = some (.iload 1, 1, 0) := rfl
theorem at_5_35 : am_at am_m5 35 = some (.iconst 15, 2, 1) := rfl
theorem at_5_37 : am_at am_m5 37 = some (.invokestatic 95, 3, 25) := rfl
theorem at_5_40 : am_at am_m5 40 = some (.iinc 1 1, 3, 0) := rfl
theorem at_5_43 : am_at am_m5 43 = some (.goto 2, 3, 0) := rfl
theorem at_5_46 : am_at am_m5 46 = some (.return_, 1, 0) := rfl
def g_5_40 (n : Nat) (H2 : Int32 → amS → amQ) (l1 : Int32) (S : amS) : amQ := H2 (l1 + 1) S
theorem t_5_40 {X : amX} {d e : Nat} {R : amS} {u : Nat → Int64} {H2 : Int32 → amS → amQ} (hd : 3 ≤ d) (n : Nat) (hH2 : ∀ (l1 : Int32) (S : amS), AW X d am_m5 (wc R u) e 2 [(0, .ref 1), (1, .int l1)] [] S (H2 l1 S)) (l1 : Int32) (S : amS) : AW X d am_m5 (wc R u) e 40 [(0, .ref 1), (1, .int l1)] [] S (g_5_40 n H2 l1 S) := by
  unfold g_5_40
  refine aw_iinc at_5_40 rfl (by decide) rfl ic_1 rfl ?_
  refine aw_goto at_5_43 ?_
  exact aw_sub (al_cons rfl (al_cons rfl al_nil)) (hH2 (l1 + 1) S)
def h_5_2 (n : Nat) (H2 : Int32 → amS → amQ) (l1 : Int32) (S : amS) : amQ := if (S.1 1 3) ≤ l1 then some (.inl none, S) else az_bI (g_4 l1 S) fun x1 S2 => if x1 = 14 then az_bI (g_6 n (l1 + 1) S2) fun x3 S4 => if x3 = 0 then g_5_40 n H2 l1 S4 else az_st (sR S4 2 502 l1 15) fun S5 => g_5_40 n H2 l1 S5 else g_5_40 n H2 l1 S2
def g_5_2 : Nat → Int32 → amS → amQ
  | 0 => fun _ _ => none
  | n + 1 => h_5_2 n (g_5_2 n)
theorem th_5_2 {X : amX} {d e : Nat} {R : amS} {u : Nat → Int64} {H2 : Int32 → amS → amQ} (hd : 3 ≤ d) (n : Nat) (hH2 : ∀ (l1 : Int32) (S : amS), AW X d am_m5 (wc R u) e 2 [(0, .ref 1), (1, .int l1)] [] S (H2 l1 S)) (l1 : Int32)  (S : amS) : AW X d am_m5 (wc R u) e 2 [(0, .ref 1), (1, .int l1)] [] S (h_5_2 n H2 l1 S) := by
  unfold h_5_2
  refine aw_iload at_5_2 rfl ?_
  refine aw_aload at_5_3 rfl ?_
  refine aw_getf at_5_4 gf_3 ?_
  refine aw_icmp_ge at_5_7 ?_ ?_
  · exact aw_rV at_5_46 rfl
  · refine aw_aload at_5_10 rfl ?_
    refine aw_iload at_5_11 rfl ?_
    refine aw_cI at_5_12 rfl (c_4 (by omega) _ _) (fun _ h => by cases h) rfl (fun x1 S2 => ?_)
    refine aw_ic 14 at_5_15 ic_14 ?_
    refine aw_icmp_ne at_5_17 ?_ ?_
    · exact aw_sub (al_cons rfl (al_cons rfl al_nil)) (t_5_40 (by omega) n hH2 l1 S2)
    · refine aw_aload at_5_20 rfl ?_
      refine aw_iload at_5_21 rfl ?_
      refine aw_ic 1 at_5_22 ic_1 ?_
      refine aw_iadd at_5_23 ?_
      refine aw_cI at_5_24 rfl (c_6 (by omega) n _ _) (fun _ h => by cases h) rfl (fun x3 S4 => ?_)
      refine aw_if_eq at_5_27 ?_ ?_
      · exact aw_sub (al_cons rfl (al_cons rfl al_nil)) (t_5_40 (by omega) n hH2 l1 S4)
      · refine aw_aload at_5_30 rfl ?_
        refine aw_getf at_5_31 gf_0 ?_
        refine aw_iload at_5_34 rfl ?_
        refine aw_ic 15 at_5_35 ic_15 ?_
        refine aw_pV at_5_37 rfl (cw_95 (by omega) (by decide) (fun e => ar_2) (fun e => al_2) (fun e k x => as_2 k x)) (fun S5 => ?_)
        exact aw_sub (al_cons rfl (al_cons rfl al_nil)) (t_5_40 (by omega) n hH2 l1 S5)
theorem t_5_2 {X : amX} {d e : Nat} {R : amS} {u : Nat → Int64} (hd : 3 ≤ d) : ∀ (n : Nat)  (l1 : Int32) (S : amS), AW X d am_m5 (wc R u) e 2 [(0, .ref 1), (1, .int l1)] [] S (g_5_2 n l1 S)
  | 0, _, _ => aw_none
  | n + 1, l1, S => th_5_2 hd n (t_5_2 hd n) l1 S
def g_5 (n : Nat) (S : amS) : amQ := g_5_2 n 0 S
theorem t_5 {X : amX} {d e : Nat} {R : amS} {u : Nat → Int64} (hd : 3 ≤ d) (n : Nat)  (S : amS) : AW X d am_m5 (wc R u) e 0 [(0, .ref 1)] [] S (g_5 n S) := by
  unfold g_5
  refine aw_ic 0 at_5_0 ic_0 ?_
  refine aw_istore at_5_1 (by decide) rfl rfl ?_
  exact aw_sub (al_cons rfl (al_cons rfl al_nil)) (t_5_2 (by omega) n 0 S)
theorem c_5 {X : amX} {d : Nat} {R : amS} {u : Nat → Int64} (hd : 4 ≤ d) (n : Nat) (S : amS) : CW X d 5 [.ref 1] (wc R u) S (g_5 n S) := cw_up (by omega) (fun d' h => by
  subst h
  exact cw_of rfl (by decide) (Nat.le_of_ble_eq_true rfl) rfl (fun e => t_5 (by omega) n S))
/-! 8: ListDesk$Functions.clear()V -/
theorem at_8_0 : am_at am_m8 0 = some (.aload 0, 1, 0) := rfl
theorem at_8_1 : am_at am_m8 1 = some (.iconst 0, 1, 0) := rfl
theorem at_8_2 : am_at am_m8 2 = some (.putfield 107, 3, 36) := rfl
theorem at_8_5 : am_at am_m8 5 = some (.aload 0, 1, 0) := rfl
theorem at_8_6 : am_at am_m8 6 = some (.iconst 0, 1, 0) := rfl
theorem at_8_7 : am_at am_m8 7 = some (.putfield 109, 3, 40) := rfl
theorem at_8_10 : am_at am_m8 10 = some (.return_, 1, 0) := rfl
def g_8 (S : amS) : amQ := az_st (sI S 12 7 0) fun S1 => az_st (sI S1 12 9 0) fun S2 => some (.inl none, S2)
theorem t_8 {X : amX} {d e : Nat} {R : amS} {u : Nat → Int64} (hd : 0 ≤ d)  (S : amS) : AW X d am_m8 (wc R u) e 0 [(0, .ref 12)] [] S (g_8 S) := by
  unfold g_8
  refine aw_aload at_8_0 rfl ?_
  refine aw_ic 0 at_8_1 ic_0 ?_
  refine aw_putf at_8_2 (pf_107 _) (fun S1 => ?_)
  refine aw_aload at_8_5 rfl ?_
  refine aw_ic 0 at_8_6 ic_0 ?_
  refine aw_putf at_8_7 (pf_109 _) (fun S2 => ?_)
  exact aw_rV at_8_10 rfl
theorem c_8 {X : amX} {d : Nat} {R : amS} {u : Nat → Int64} (hd : 1 ≤ d) (S : amS) : CW X d 8 [.ref 12] (wc R u) S (g_8 S) := cw_up (by omega) (fun d' h => by
  subst h
  exact cw_of rfl (by decide) (Nat.le_of_ble_eq_true rfl) rfl (fun e => t_8 (by omega) S))
/-! 9: ListDesk$Functions.enter(III)V -/
theorem at_9_0 : am_at am_m9 0 = some (.aload 0, 1, 0) := rfl
theorem at_9_1 : am_at am_m9 1 = some (.getfield 100, 3, 9) := rfl
theorem at_9_4 : am_at am_m9 4 = some (.aload 0, 1, 0) := rfl
theorem at_9_5 : am_at am_m9 5 = some (.getfield 107, 3, 36) := rfl
theorem at_9_8 : am_at am_m9 8 = some (.iload 1, 1, 0) := rfl
theorem at_9_9 : am_at am_m9 9 = some (.invokestatic 95, 3, 43) := rfl
theorem at_9_12 : am_at am_m9 12 = some (.aload 0, 1, 0) := rfl
theorem at_9_13 : am_at am_m9 13 = some (.getfield 102, 3, 18) := rfl
theorem at_9_16 : am_at am_m9 16 = some (.aload 0, 1, 0) := rfl
theorem at_9_17 : am_at am_m9 17 = some (.getfield 107, 3, 36) := rfl
theorem at_9_20 : am_at am_m9 20 = some (.iload 2, 1, 0) := rfl
theorem at_9_21 : am_at am_m9 21 = some (.invokestatic 95, 3, 43) := rfl
theorem at_9_24 : am_at am_m9 24 = some (.aload 0, 1, 0) := rfl
theorem at_9_25 : am_at am_m9 25 = some (.getfield 103, 3, 21) := rfl
theorem at_9_28 : am_at am_m9 28 = some (.aload 0, 1, 0) := rfl
theorem at_9_29 : am_at am_m9 29 = some (.getfield 107, 3, 36) := rfl
theorem at_9_32 : am_at am_m9 32 = some (.iload 3, 1, 0) := rfl
theorem at_9_33 : am_at am_m9 33 = some (.invokestatic 95, 3, 43) := rfl
theorem at_9_36 : am_at am_m9 36 = some (.aload 0, 1, 0) := rfl
theorem at_9_37 : am_at am_m9 37 = some (.getfield 104, 3, 24) := rfl
theorem at_9_40 : am_at am_m9 40 = some (.aload 0, 1, 0) := rfl
theorem at_9_41 : am_at am_m9 41 = some (.getfield 107, 3, 36) := rfl
theorem at_9_44 : am_at am_m9 44 = some (.iconst 0, 1, 0) := rfl
theorem at_9_45 : am_at am_m9 45 = some (.invokestatic 95, 3, 43) := rfl
theorem at_9_48 : am_at am_m9 48 = some (.aload 0, 1, 0) := rfl
theorem at_9_49 : am_at am_m9 49 = some (.dup, 1, 0) := rfl
theorem at_9_50 : am_at am_m9 50 = some (.getfield 109, 3, 40) := rfl
theorem at_9_53 : am_at am_m9 53 = some (.iconst 1, 1, 0) := rfl
theorem at_9_54 : am_at am_m9 54 = some (.iadd, 1, 0) := rfl
theorem at_9_55 : am_at am_m9 55 = some (.putfield 109, 3, 40) := rfl
theorem at_9_58 : am_at am_m9 58 = some (.aload 0, 1, 0) := rfl
theorem at_9_59 : am_at am_m9 59 = some (.getfield 108, 3, 33) := rfl
theorem at_9_62 : am_at am_m9 62 = some (.aload 0, 1, 0) := rfl
theorem at_9_63 : am_at am_m9 63 = some (.getfield 109, 3, 40) := rfl
theorem at_9_66 : am_at am_m9 66 = some (.aload 0, 1, 0) := rfl
theorem at_9_67 : am_at am_m9 67 = some (.getfield 107, 3, 36) := rfl
theorem at_9_70 : am_at am_m9 70 = some (.invokestatic 95, 3, 43) := rfl
theorem at_9_73 : am_at am_m9 73 = some (.aload 0, 1, 0) := rfl
theorem at_9_74 : am_at am_m9 74 = some (.dup, 1, 0) := rfl
theorem at_9_75 : am_at am_m9 75 = some (.getfield 107, 3, 36) := rfl
theorem at_9_78 : am_at am_m9 78 = some (.iconst 1, 1, 0) := rfl
theorem at_9_79 : am_at am_m9 79 = some (.iadd, 1, 0) := rfl
theorem at_9_80 : am_at am_m9 80 = some (.putfield 107, 3, 36) := rfl
theorem at_9_83 : am_at am_m9 83 = some (.return_, 1, 0) := rfl
def g_9 (l1 : Int32) (l2 : Int32) (l3 : Int32) (S : amS) : amQ := az_st (sR S 13 28 (S.1 12 7) l1) fun S1 => az_st (sR S1 15 28 (S1.1 12 7) l2) fun S2 => az_st (sR S2 16 28 (S2.1 12 7) l3) fun S3 => az_st (sR S3 17 28 (S3.1 12 7) 0) fun S4 => az_st (sI S4 12 9 ((S4.1 12 9) + 1)) fun S5 => az_st (sR S5 20 21 (S5.1 12 9) (S5.1 12 7)) fun S6 => az_st (sI S6 12 7 ((S6.1 12 7) + 1)) fun S7 => some (.inl none, S7)
theorem t_9 {X : amX} {d e : Nat} {R : amS} {u : Nat → Int64} (hd : 1 ≤ d)  (l1 : Int32) (l2 : Int32) (l3 : Int32) (S : amS) : AW X d am_m9 (wc R u) e 0 [(0, .ref 12), (1, .int l1), (2, .int l2), (3, .int l3)] [] S (g_9 l1 l2 l3 S) := by
  unfold g_9
  refine aw_aload at_9_0 rfl ?_
  refine aw_getf at_9_1 gf_100 ?_
  refine aw_aload at_9_4 rfl ?_
  refine aw_getf at_9_5 gf_107 ?_
  refine aw_iload at_9_8 rfl ?_
  refine aw_pV at_9_9 rfl (cw_95 (by omega) (by decide) (fun e => ar_13) (fun e => al_13) (fun e k x => as_13 k x)) (fun S1 => ?_)
  refine aw_aload at_9_12 rfl ?_
  refine aw_getf at_9_13 gf_102 ?_
  refine aw_aload at_9_16 rfl ?_
  refine aw_getf at_9_17 gf_107 ?_
  refine aw_iload at_9_20 rfl ?_
  refine aw_pV at_9_21 rfl (cw_95 (by omega) (by decide) (fun e => ar_15) (fun e => al_15) (fun e k x => as_15 k x)) (fun S2 => ?_)
  refine aw_aload at_9_24 rfl ?_
  refine aw_getf at_9_25 gf_103 ?_
  refine aw_aload at_9_28 rfl ?_
  refine aw_getf at_9_29 gf_107 ?_
  refine aw_iload at_9_32 rfl ?_
  refine aw_pV at_9_33 rfl (cw_95 (by omega) (by decide) (fun e => ar_16) (fun e => al_16) (fun e k x => as_16 k x)) (fun S3 => ?_)
  refine aw_aload at_9_36 rfl ?_
  refine aw_getf at_9_37 gf_104 ?_
  refine aw_aload at_9_40 rfl ?_
  refine aw_getf at_9_41 gf_107 ?_
  refine aw_ic 0 at_9_44 ic_0 ?_
  refine aw_pV at_9_45 rfl (cw_95 (by omega) (by decide) (fun e => ar_17) (fun e => al_17) (fun e k x => as_17 k x)) (fun S4 => ?_)
  refine aw_aload at_9_48 rfl ?_
  refine aw_dupA at_9_49 ?_
  refine aw_getf at_9_50 gf_109 ?_
  refine aw_ic 1 at_9_53 ic_1 ?_
  refine aw_iadd at_9_54 ?_
  refine aw_putf at_9_55 (pf_109 _) (fun S5 => ?_)
  refine aw_aload at_9_58 rfl ?_
  refine aw_getf at_9_59 gf_108 ?_
  refine aw_aload at_9_62 rfl ?_
  refine aw_getf at_9_63 gf_109 ?_
  refine aw_aload at_9_66 rfl ?_
  refine aw_getf at_9_67 gf_107 ?_
  refine aw_pV at_9_70 rfl (cw_95 (by omega) (by decide) (fun e => ar_20) (fun e => al_20) (fun e k x => as_20 k x)) (fun S6 => ?_)
  refine aw_aload at_9_73 rfl ?_
  refine aw_dupA at_9_74 ?_
  refine aw_getf at_9_75 gf_107 ?_
  refine aw_ic 1 at_9_78 ic_1 ?_
  refine aw_iadd at_9_79 ?_
  refine aw_putf at_9_80 (pf_107 _) (fun S7 => ?_)
  exact aw_rV at_9_83 rfl
theorem c_9 {X : amX} {d : Nat} {R : amS} {u : Nat → Int64} (hd : 2 ≤ d) (l1 : Int32) (l2 : Int32) (l3 : Int32) (S : amS) : CW X d 9 [.ref 12, .int l1, .int l2, .int l3] (wc R u) S (g_9 l1 l2 l3 S) := cw_up (by omega) (fun d' h => by
  subst h
  exact cw_of rfl (by decide) (Nat.le_of_ble_eq_true rfl) rfl (fun e => t_9 (by omega) l1 l2 l3 S))
/-! 10: ListDesk$Functions.leave(I)V -/
theorem at_10_0 : am_at am_m10 0 = some (.aload 0, 1, 0) := rfl
theorem at_10_1 : am_at am_m10 1 = some (.getfield 101, 3, 15) := rfl
theorem at_10_4 : am_at am_m10 4 = some (.aload 0, 1, 0) := rfl
theorem at_10_5 : am_at am_m10 5 = some (.getfield 108, 3, 33) := rfl
theorem at_10_8 : am_at am_m10 8 = some (.aload 0, 1, 0) := rfl
theorem at_10_9 : am_at am_m10 9 = some (.getfield 109, 3, 40) := rfl
theorem at_10_12 : am_at am_m10 12 = some (.invokestatic 94, 3, 49) := rfl
theorem at_10_15 : am_at am_m10 15 = some (.iload 1, 1, 0) := rfl
theorem at_10_16 : am_at am_m10 16 = some (.invokestatic 95, 3, 43) := rfl
theorem at_10_19 : am_at am_m10 19 = some (.aload 0, 1, 0) := rfl
theorem at_10_20 : am_at am_m10 20 = some (.dup, 1, 0) := rfl
theorem at_10_21 : am_at am_m10 21 = some (.getfield 109, 3, 40) := rfl
theorem at_10_24 : am_at am_m10 24 = some (.iconst 1, 1, 0) := rfl
theorem at_10_25 : am_at am_m10 25 = some (.isub, 1, 0) := rfl
theorem at_10_26 : am_at am_m10 26 = some (.putfield 109, 3, 40) := rfl
theorem at_10_29 : am_at am_m10 29 = some (.return_, 1, 0) := rfl
def g_10 (l1 : Int32) (S : amS) : amQ := az_st (sR S 14 28 (az_rg 21 (S.1 20) (S.1 12 9)) l1) fun S1 => az_st (sI S1 12 9 ((S1.1 12 9) - 1)) fun S2 => some (.inl none, S2)
theorem t_10 {X : amX} {d e : Nat} {R : amS} {u : Nat → Int64} (hd : 1 ≤ d)  (l1 : Int32) (S : amS) : AW X d am_m10 (wc R u) e 0 [(0, .ref 12), (1, .int l1)] [] S (g_10 l1 S) := by
  unfold g_10
  refine aw_aload at_10_0 rfl ?_
  refine aw_getf at_10_1 gf_101 ?_
  refine aw_aload at_10_4 rfl ?_
  refine aw_getf at_10_5 gf_108 ?_
  refine aw_aload at_10_8 rfl ?_
  refine aw_getf at_10_9 gf_109 ?_
  refine aw_pI at_10_12 rfl (cw_94 (by omega) (by decide) (fun e => ai_20) (fun e => al_20)) ?_
  refine aw_iload at_10_15 rfl ?_
  refine aw_pV at_10_16 rfl (cw_95 (by omega) (by decide) (fun e => ar_14) (fun e => al_14) (fun e k x => as_14 k x)) (fun S1 => ?_)
  refine aw_aload at_10_19 rfl ?_
  refine aw_dupA at_10_20 ?_
  refine aw_getf at_10_21 gf_109 ?_
  refine aw_ic 1 at_10_24 ic_1 ?_
  refine aw_isub at_10_25 ?_
  refine aw_putf at_10_26 (pf_109 _) (fun S2 => ?_)
  exact aw_rV at_10_29 rfl
theorem c_10 {X : amX} {d : Nat} {R : amS} {u : Nat → Int64} (hd : 2 ≤ d) (l1 : Int32) (S : amS) : CW X d 10 [.ref 12, .int l1] (wc R u) S (g_10 l1 S) := cw_up (by omega) (fun d' h => by
  subst h
  exact cw_of rfl (by decide) (Nat.le_of_ble_eq_true rfl) rfl (fun e => t_10 (by omega) l1 S))
/-! 12: ListDesk$Functions.take(III)I -/
theorem at_12_0 : am_at am_m12 0 = some (.iload 1, 1, 0) := rfl
theorem at_12_1 : am_at am_m12 1 = some (.iconst 26, 2, 1) := rfl
theorem at_12_3 : am_at am_m12 3 = some (.imul, 1, 0) := rfl
theorem at_12_4 : am_at am_m12 4 = some (.istore 4, 2, 0) := rfl
theorem at_12_6 : am_at am_m12 6 = some (.aload 0, 1, 0) := rfl
theorem at_12_7 : am_at am_m12 7 = some (.getfield 104, 3, 24) := rfl
theorem at_12_10 : am_at am_m12 10 = some (.iload 1, 1, 0) := rfl
theorem at_12_11 : am_at am_m12 11 = some (.invokestatic 94, 3, 49) := rfl
theorem at_12_14 : am_at am_m12 14 = some (.istore 5, 2, 0) := rfl
theorem at_12_16 : am_at am_m12 16 = some (.iconst 0, 1, 0) := rfl
theorem at_12_17 : am_at am_m12 17 = some (.istore 6, 2, 0) := rfl
theorem at_12_19 : am_at am_m12 19 = some (.iload 6, 2, 0) := rfl
theorem at_12_21 : am_at am_m12 21 = some (.iload 5, 2, 0) := rfl
theorem at_12_23 : am_at am_m12 23 = some (.if_icmp .ge 51, 3, 0) := rfl
theorem at_12_26 : am_at am_m12 26 = some (.aload 0, 1, 0) := rfl
theorem at_12_27 : am_at am_m12 27 = some (.getfield 105, 3, 27) := rfl
theorem at_12_30 : am_at am_m12 30 = some (.iload 4, 2, 0) := rfl
theorem at_12_32 : am_at am_m12 32 = some (.iload 6, 2, 0) := rfl
theorem at_12_34 : am_at am_m12 34 = some (.iadd, 1, 0) := rfl
theorem at_12_35 : am_at am_m12 35 = some (.invokestatic 94, 3, 49) := rfl
theorem at_12_38 : am_at am_m12 38 = some (.iload 2, 1, 0) := rfl
theorem at_12_39 : am_at am_m12 39 = some (.if_icmp .ne 45, 3, 0) := rfl
theorem at_12_42 : am_at am_m12 42 = some (.iload 6, 2, 0) := rfl
theorem at_12_44 : am_at am_m12 44 = some (.ireturn, 1, 0) := rfl
theorem at_12_45 : am_at am_m12 45 = some (.iinc 6 1, 3, 0) := rfl
theorem at_12_48 : am_at am_m12 48 = some (.goto 19, 3, 0) := rfl
theorem at_12_51 : am_at am_m12 51 = some (.aload 0, 1, 0) := rfl
theorem at_12_52 : am_at am_m12 52 = some (.getfield 105, 3, 27) := rfl
theorem at_12_55 : am_at am_m12 55 = some (.iload 4, 2, 0) := rfl
theorem at_12_57 : am_at am_m12 57 = some (.iload 5, 2, 0) := rfl
theorem at_12_59 : am_at am_m12 59 = some (.iadd, 1, 0) := rfl
theorem at_12_60 : am_at am_m12 60 = some (.iload 2, 1, 0) := rfl
theorem at_12_61 : am_at am_m12 61 = some (.invokestatic 95, 3, 43) := rfl
theorem at_12_64 : am_at am_m12 64 = some (.aload 0, 1, 0) := rfl
theorem at_12_65 : am_at am_m12 65 = some (.getfield 106, 3, 30) := rfl
theorem at_12_68 : am_at am_m12 68 = some (.iload 4, 2, 0) := rfl
theorem at_12_70 : am_at am_m12 70 = some (.iload 5, 2, 0) := rfl
theorem at_12_72 : am_at am_m12 72 = some (.iadd, 1, 0) := rfl
theorem at_12_73 : am_at am_m12 73 = some (.iload 3, 1, 0) := rfl
theorem at_12_74 : am_at am_m12 74 = some (.invokestatic 95, 3, 43) := rfl
theorem at_12_77 : am_at am_m12 77 = some (.aload 0, 1, 0) := rfl
theorem at_12_78 : am_at am_m12 78 = some (.getfield 104, 3, 24) := rfl
theorem at_12_81 : am_at am_m12 81 = some (.iload 1, 1, 0) := rfl
theorem at_12_82 : am_at am_m12 82 = some (.iload 5, 2, 0) := rfl
theorem at_12_84 : am_at am_m12 84 = some (.iconst 1, 1, 0) := rfl
theorem at_12_85 : am_at am_m12 85 = some (.iadd, 1, 0) := rfl
theorem at_12_86 : am_at am_m12 86 = some (.invokestatic 95, 3, 43) := rfl
theorem at_12_89 : am_at am_m12 89 = some (.iload 5, 2, 0) := rfl
theorem at_12_91 : am_at am_m12 91 = some (.ireturn, 1, 0) := rfl
def h_12_19 (n : Nat) (H19 : Int32 → Int32 → Int32 → Int32 → Int32 → Int32 → amS → amQ) (l1 : Int32) (l2 : Int32) (l3 : Int32) (l4 : Int32) (l5 : Int32) (l6 : Int32) (S : amS) : amQ := if l5 ≤ l6 then az_st (sR S 18 728 (l4 + l5) l2) fun S1 => az_st (sR S1 19 728 (l4 + l5) l3) fun S2 => az_st (sR S2 17 28 l1 (l5 + 1)) fun S3 => some (.inl (some (.int l5)), S3) else if (az_rg 728 (S.1 18) (l4 + l6)) = l2 then some (.inl (some (.int l6)), S) else H19 l1 l2 l3 l4 l5 (l6 + 1) S
def g_12_19 : Nat → Int32 → Int32 → Int32 → Int32 → Int32 → Int32 → amS → amQ
  | 0 => fun _ _ _ _ _ _ _ => none
  | n + 1 => h_12_19 n (g_12_19 n)
theorem th_12_19 {X : amX} {d e : Nat} {R : amS} {u : Nat → Int64} {H19 : Int32 → Int32 → Int32 → Int32 → Int32 → Int32 → amS → amQ} (hd : 1 ≤ d) (n : Nat) (hH19 : ∀ (l1 : Int32) (l2 : Int32) (l3 : Int32) (l4 : Int32) (l5 : Int32) (l6 : Int32) (S : amS), AW X d am_m12 (wc R u) e 19 [(0, .ref 12), (1, .int l1), (2, .int l2), (3, .int l3), (4, .int l4), (5, .int l5), (6, .int l6)] [] S (H19 l1 l2 l3 l4 l5 l6 S)) (l1 : Int32) (l2 : Int32) (l3 : Int32) (l4 : Int32) (l5 : Int32) (l6 : Int32)  (S : amS) : AW X d am_m12 (wc R u) e 19 [(0, .ref 12), (1, .int l1), (2, .int l2), (3, .int l3), (4, .int l4), (5, .int l5), (6, .int l6)] [] S (h_12_19 n H19 l1 l2 l3 l4 l5 l6 S) := by
  unfold h_12_19
  refine aw_iload at_12_19 rfl ?_
  refine aw_iload at_12_21 rfl ?_
  refine aw_icmp_ge at_12_23 ?_ ?_
  · refine aw_aload at_12_51 rfl ?_
    refine aw_getf at_12_52 gf_105 ?_
    refine aw_iload at_12_55 rfl ?_
    refine aw_iload at_12_57 rfl ?_
    refine aw_iadd at_12_59 ?_
    refine aw_iload at_12_60 rfl ?_
    refine aw_pV at_12_61 rfl (cw_95 (by omega) (by decide) (fun e => ar_18) (fun e => al_18) (fun e k x => as_18 k x)) (fun S1 => ?_)
    refine aw_aload at_12_64 rfl ?_
    refine aw_getf at_12_65 gf_106 ?_
    refine aw_iload at_12_68 rfl ?_
    refine aw_iload at_12_70 rfl ?_
    refine aw_iadd at_12_72 ?_
    refine aw_iload at_12_73 rfl ?_
    refine aw_pV at_12_74 rfl (cw_95 (by omega) (by decide) (fun e => ar_19) (fun e => al_19) (fun e k x => as_19 k x)) (fun S2 => ?_)
    refine aw_aload at_12_77 rfl ?_
    refine aw_getf at_12_78 gf_104 ?_
    refine aw_iload at_12_81 rfl ?_
    refine aw_iload at_12_82 rfl ?_
    refine aw_ic 1 at_12_84 ic_1 ?_
    refine aw_iadd at_12_85 ?_
    refine aw_pV at_12_86 rfl (cw_95 (by omega) (by decide) (fun e => ar_17) (fun e => al_17) (fun e k x => as_17 k x)) (fun S3 => ?_)
    refine aw_iload at_12_89 rfl ?_
    exact aw_rI at_12_91 rfl
  · refine aw_aload at_12_26 rfl ?_
    refine aw_getf at_12_27 gf_105 ?_
    refine aw_iload at_12_30 rfl ?_
    refine aw_iload at_12_32 rfl ?_
    refine aw_iadd at_12_34 ?_
    refine aw_pI at_12_35 rfl (cw_94 (by omega) (by decide) (fun e => ai_18) (fun e => al_18)) ?_
    refine aw_iload at_12_38 rfl ?_
    refine aw_icmp_ne at_12_39 ?_ ?_
    · refine aw_iinc at_12_45 rfl (by decide) rfl ic_1 rfl ?_
      refine aw_goto at_12_48 ?_
      exact aw_sub (al_cons rfl (al_cons rfl (al_cons rfl (al_cons rfl (al_cons rfl (al_cons rfl (al_cons rfl al_nil))))))) (hH19 l1 l2 l3 l4 l5 (l6 + 1) S)
    · refine aw_iload at_12_42 rfl ?_
      exact aw_rI at_12_44 rfl
theorem t_12_19 {X : amX} {d e : Nat} {R : amS} {u : Nat → Int64} (hd : 1 ≤ d) : ∀ (n : Nat)  (l1 : Int32) (l2 : Int32) (l3 : Int32) (l4 : Int32) (l5 : Int32) (l6 : Int32) (S : amS), AW X d am_m12 (wc R u) e 19 [(0, .ref 12), (1, .int l1), (2, .int l2), (3, .int l3), (4, .int l4), (5, .int l5), (6, .int l6)] [] S (g_12_19 n l1 l2 l3 l4 l5 l6 S)
  | 0, _, _, _, _, _, _, _ => aw_none
  | n + 1, l1, l2, l3, l4, l5, l6, S => th_12_19 hd n (t_12_19 hd n) l1 l2 l3 l4 l5 l6 S
def g_12 (n : Nat) (l1 : Int32) (l2 : Int32) (l3 : Int32) (S : amS) : amQ := az_st (l1 * 26) fun x1 => az_st (az_rg 28 (S.1 17) l1) fun x2 => g_12_19 n l1 l2 l3 x1 x2 0 S
theorem t_12 {X : amX} {d e : Nat} {R : amS} {u : Nat → Int64} (hd : 1 ≤ d) (n : Nat)  (l1 : Int32) (l2 : Int32) (l3 : Int32) (S : amS) : AW X d am_m12 (wc R u) e 0 [(0, .ref 12), (1, .int l1), (2, .int l2), (3, .int l3)] [] S (g_12 n l1 l2 l3 S) := by
  unfold g_12
  refine aw_iload at_12_0 rfl ?_
  refine aw_ic 26 at_12_1 ic_26 ?_
  refine aw_imul at_12_3 ?_
  refine aw_nameI (fun x1 => ?_)
  refine aw_istore at_12_4 (by decide) rfl rfl ?_
  refine aw_aload at_12_6 rfl ?_
  refine aw_getf at_12_7 gf_104 ?_
  refine aw_iload at_12_10 rfl ?_
  refine aw_pI at_12_11 rfl (cw_94 (by omega) (by decide) (fun e => ai_17) (fun e => al_17)) ?_
  refine aw_nameI (fun x2 => ?_)
  refine aw_istore at_12_14 (by decide) rfl rfl ?_
  refine aw_ic 0 at_12_16 ic_0 ?_
  refine aw_istore at_12_17 (by decide) rfl rfl ?_
  exact aw_sub (al_cons rfl (al_cons rfl (al_cons rfl (al_cons rfl (al_cons rfl (al_cons rfl (al_cons rfl al_nil))))))) (t_12_19 (by omega) n l1 l2 l3 x1 x2 0 S)
theorem c_12 {X : amX} {d : Nat} {R : amS} {u : Nat → Int64} (hd : 2 ≤ d) (n : Nat) (l1 : Int32) (l2 : Int32) (l3 : Int32) (S : amS) : CW X d 12 [.ref 12, .int l1, .int l2, .int l3] (wc R u) S (g_12 n l1 l2 l3 S) := cw_up (by omega) (fun d' h => by
  subst h
  exact cw_of rfl (by decide) (Nat.le_of_ble_eq_true rfl) rfl (fun e => t_12 (by omega) n l1 l2 l3 S))
/-! 11: ListDesk$Functions.reach(III)I -/
theorem at_11_0 : am_at am_m11 0 = some (.iload 3, 1, 0) := rfl
theorem at_11_1 : am_at am_m11 1 = some (.istore 4, 2, 0) := rfl
theorem at_11_3 : am_at am_m11 3 = some (.iload 2, 1, 0) := rfl
theorem at_11_4 : am_at am_m11 4 = some (.iconst 1, 1, 0) := rfl
theorem at_11_5 : am_at am_m11 5 = some (.iadd, 1, 0) := rfl
theorem at_11_6 : am_at am_m11 6 = some (.istore 5, 2, 0) := rfl
theorem at_11_8 : am_at am_m11 8 = some (.iload 5, 2, 0) := rfl
theorem at_11_10 : am_at am_m11 10 = some (.aload 0, 1, 0) := rfl
theorem at_11_11 : am_at am_m11 11 = some (.getfield 109, 3, 40) := rfl
theorem at_11_14 : am_at am_m11 14 = some (.if_icmp .gt 43, 3, 0) := rfl
theorem at_11_17 : am_at am_m11 17 = some (.iconst (-1), 1, 0) := rfl
theorem at_11_18 : am_at am_m11 18 = some (.aload 0, 1, 0) := rfl
theorem at_11_19 : am_at am_m11 19 = some (.aload 0, 1, 0) := rfl
theorem at_11_20 : am_at am_m11 20 = some (.getfield 108, 3, 33) := rfl
theorem at_11_23 : am_at am_m11 23 = some (.iload 5, 2, 0) := rfl
theorem at_11_25 : am_at am_m11 25 = some (.invokestatic 94, 3, 49) := rfl
theorem at_11_28 : am_at am_m11 28 = some (.iload 1, 1, 0) := rfl
theorem at_11_29 : am_at am_m11 29 = some (.iload 4, 2, 0) := rfl
theorem at_11_31 : am_at am_m11 31 = some (.invokevirtual 12, 3, 53) := rfl
theorem at_11_34 : am_at am_m11 34 = some (.isub, 1, 0) := rfl
theorem at_11_35 : am_at am_m11 35 = some (.istore 4, 2, 0) := rfl
theorem at_11_37 : am_at am_m11 37 = some (.iinc 5 1, 3, 0) := rfl
theorem at_11_40 : am_at am_m11 40 = some (.goto 8, 3, 0) := rfl
theorem at_11_43 : am_at am_m11 43 = some (.iload 4, 2, 0) := rfl
theorem at_11_45 : am_at am_m11 45 = some (.ireturn, 1, 0) := rfl
def h_11_8 (n : Nat) (H8 : Int32 → Int32 → Int32 → amS → amQ) (l1 : Int32) (l4 : Int32) (l5 : Int32) (S : amS) : amQ := if (S.1 12 9) < l5 then some (.inl (some (.int l4)), S) else az_bI (g_12 n (az_rg 21 (S.1 20) l5) l1 l4 S) fun x1 S2 => az_st (((-1)) - x1) fun x3 => H8 l1 x3 (l5 + 1) S2
def g_11_8 : Nat → Int32 → Int32 → Int32 → amS → amQ
  | 0 => fun _ _ _ _ => none
  | n + 1 => h_11_8 n (g_11_8 n)
theorem th_11_8 {X : amX} {d e : Nat} {R : amS} {u : Nat → Int64} {H8 : Int32 → Int32 → Int32 → amS → amQ} (hd : 2 ≤ d) (n : Nat) (hH8 : ∀ (l1 : Int32) (l4 : Int32) (l5 : Int32) (S : amS), AW X d am_m11 (wc R u) e 8 [(0, .ref 12), (1, .int l1), (4, .int l4), (5, .int l5)] [] S (H8 l1 l4 l5 S)) (l1 : Int32) (l4 : Int32) (l5 : Int32)  (S : amS) : AW X d am_m11 (wc R u) e 8 [(0, .ref 12), (1, .int l1), (4, .int l4), (5, .int l5)] [] S (h_11_8 n H8 l1 l4 l5 S) := by
  unfold h_11_8
  refine aw_iload at_11_8 rfl ?_
  refine aw_aload at_11_10 rfl ?_
  refine aw_getf at_11_11 gf_109 ?_
  refine aw_icmp_gt at_11_14 ?_ ?_
  · refine aw_iload at_11_43 rfl ?_
    exact aw_rI at_11_45 rfl
  · refine aw_ic (-1) at_11_17 ic_m1 ?_
    refine aw_aload at_11_18 rfl ?_
    refine aw_aload at_11_19 rfl ?_
    refine aw_getf at_11_20 gf_108 ?_
    refine aw_iload at_11_23 rfl ?_
    refine aw_pI at_11_25 rfl (cw_94 (by omega) (by decide) (fun e => ai_20) (fun e => al_20)) ?_
    refine aw_iload at_11_28 rfl ?_
    refine aw_iload at_11_29 rfl ?_
    refine aw_cI at_11_31 rfl (c_12 (by omega) n _ _ _ _) (fun _ h => by cases h) rfl (fun x1 S2 => ?_)
    refine aw_isub at_11_34 ?_
    refine aw_nameI (fun x3 => ?_)
    refine aw_istore at_11_35 (by decide) rfl rfl ?_
    refine aw_iinc at_11_37 rfl (by decide) rfl ic_1 rfl ?_
    refine aw_goto at_11_40 ?_
    exact aw_sub (al_cons rfl (al_cons rfl (al_cons rfl (al_cons rfl al_nil)))) (hH8 l1 x3 (l5 + 1) S2)
theorem t_11_8 {X : amX} {d e : Nat} {R : amS} {u : Nat → Int64} (hd : 2 ≤ d) : ∀ (n : Nat)  (l1 : Int32) (l4 : Int32) (l5 : Int32) (S : amS), AW X d am_m11 (wc R u) e 8 [(0, .ref 12), (1, .int l1), (4, .int l4), (5, .int l5)] [] S (g_11_8 n l1 l4 l5 S)
  | 0, _, _, _, _ => aw_none
  | n + 1, l1, l4, l5, S => th_11_8 hd n (t_11_8 hd n) l1 l4 l5 S
def g_11 (n : Nat) (l1 : Int32) (l2 : Int32) (l3 : Int32) (S : amS) : amQ := az_st (l2 + 1) fun x1 => g_11_8 n l1 l3 x1 S
theorem t_11 {X : amX} {d e : Nat} {R : amS} {u : Nat → Int64} (hd : 2 ≤ d) (n : Nat)  (l1 : Int32) (l2 : Int32) (l3 : Int32) (S : amS) : AW X d am_m11 (wc R u) e 0 [(0, .ref 12), (1, .int l1), (2, .int l2), (3, .int l3)] [] S (g_11 n l1 l2 l3 S) := by
  unfold g_11
  refine aw_iload at_11_0 rfl ?_
  refine aw_istore at_11_1 (by decide) rfl rfl ?_
  refine aw_iload at_11_3 rfl ?_
  refine aw_ic 1 at_11_4 ic_1 ?_
  refine aw_iadd at_11_5 ?_
  refine aw_nameI (fun x1 => ?_)
  refine aw_istore at_11_6 (by decide) rfl rfl ?_
  exact aw_sub (al_cons rfl (al_cons rfl (al_cons rfl (al_cons rfl al_nil)))) (t_11_8 (by omega) n l1 l3 x1 S)
theorem c_11 {X : amX} {d : Nat} {R : amS} {u : Nat → Int64} (hd : 3 ≤ d) (n : Nat) (l1 : Int32) (l2 : Int32) (l3 : Int32) (S : amS) : CW X d 11 [.ref 12, .int l1, .int l2, .int l3] (wc R u) S (g_11 n l1 l2 l3 S) := cw_up (by omega) (fun d' h => by
  subst h
  exact cw_of rfl (by decide) (Nat.le_of_ble_eq_true rfl) rfl (fun e => t_11 (by omega) n l1 l2 l3 S))
/-! 13: ListDesk$Functions.entryOf(I)I -/
theorem at_13_0 : am_at am_m13 0 = some (.aload 0, 1, 0) := rfl
theorem at_13_1 : am_at am_m13 1 = some (.getfield 100, 3, 9) := rfl
theorem at_13_4 : am_at am_m13 4 = some (.iload 1, 1, 0) := rfl
theorem at_13_5 : am_at am_m13 5 = some (.invokestatic 94, 3, 49) := rfl
theorem at_13_8 : am_at am_m13 8 = some (.ireturn, 1, 0) := rfl
def g_13 (l1 : Int32) (S : amS) : amQ := some (.inl (some (.int (az_rg 28 (S.1 13) l1))), S)
theorem t_13 {X : amX} {d e : Nat} {R : amS} {u : Nat → Int64} (hd : 1 ≤ d)  (l1 : Int32) (S : amS) : AW X d am_m13 (wc R u) e 0 [(0, .ref 12), (1, .int l1)] [] S (g_13 l1 S) := by
  unfold g_13
  refine aw_aload at_13_0 rfl ?_
  refine aw_getf at_13_1 gf_100 ?_
  refine aw_iload at_13_4 rfl ?_
  refine aw_pI at_13_5 rfl (cw_94 (by omega) (by decide) (fun e => ai_13) (fun e => al_13)) ?_
  exact aw_rI at_13_8 rfl
theorem c_13 {X : amX} {d : Nat} {R : amS} {u : Nat → Int64} (hd : 2 ≤ d) (l1 : Int32) (S : amS) : CW X d 13 [.ref 12, .int l1] (wc R u) S (g_13 l1 S) := cw_up (by omega) (fun d' h => by
  subst h
  exact cw_of rfl (by decide) (Nat.le_of_ble_eq_true rfl) rfl (fun e => t_13 (by omega) l1 S))
/-! 14: ListDesk$Functions.afterOf(I)I -/
theorem at_14_0 : am_at am_m14 0 = some (.aload 0, 1, 0) := rfl
theorem at_14_1 : am_at am_m14 1 = some (.getfield 101, 3, 15) := rfl
theorem at_14_4 : am_at am_m14 4 = some (.iload 1, 1, 0) := rfl
theorem at_14_5 : am_at am_m14 5 = some (.invokestatic 94, 3, 49) := rfl
theorem at_14_8 : am_at am_m14 8 = some (.ireturn, 1, 0) := rfl
def g_14 (l1 : Int32) (S : amS) : amQ := some (.inl (some (.int (az_rg 28 (S.1 14) l1))), S)
theorem t_14 {X : amX} {d e : Nat} {R : amS} {u : Nat → Int64} (hd : 1 ≤ d)  (l1 : Int32) (S : amS) : AW X d am_m14 (wc R u) e 0 [(0, .ref 12), (1, .int l1)] [] S (g_14 l1 S) := by
  unfold g_14
  refine aw_aload at_14_0 rfl ?_
  refine aw_getf at_14_1 gf_101 ?_
  refine aw_iload at_14_4 rfl ?_
  refine aw_pI at_14_5 rfl (cw_94 (by omega) (by decide) (fun e => ai_14) (fun e => al_14)) ?_
  exact aw_rI at_14_8 rfl
theorem c_14 {X : amX} {d : Nat} {R : amS} {u : Nat → Int64} (hd : 2 ≤ d) (l1 : Int32) (S : amS) : CW X d 14 [.ref 12, .int l1] (wc R u) S (g_14 l1 S) := cw_up (by omega) (fun d' h => by
  subst h
  exact cw_of rfl (by decide) (Nat.le_of_ble_eq_true rfl) rfl (fun e => t_14 (by omega) l1 S))
/-! 15: ListDesk$Functions.parametersOf(I)I -/
theorem at_15_0 : am_at am_m15 0 = some (.aload 0, 1, 0) := rfl
theorem at_15_1 : am_at am_m15 1 = some (.getfield 102, 3, 18) := rfl
theorem at_15_4 : am_at am_m15 4 = some (.iload 1, 1, 0) := rfl
theorem at_15_5 : am_at am_m15 5 = some (.invokestatic 94, 3, 49) := rfl
theorem at_15_8 : am_at am_m15 8 = some (.ireturn, 1, 0) := rfl
def g_15 (l1 : Int32) (S : amS) : amQ := some (.inl (some (.int (az_rg 28 (S.1 15) l1))), S)
theorem t_15 {X : amX} {d e : Nat} {R : amS} {u : Nat → Int64} (hd : 1 ≤ d)  (l1 : Int32) (S : amS) : AW X d am_m15 (wc R u) e 0 [(0, .ref 12), (1, .int l1)] [] S (g_15 l1 S) := by
  unfold g_15
  refine aw_aload at_15_0 rfl ?_
  refine aw_getf at_15_1 gf_102 ?_
  refine aw_iload at_15_4 rfl ?_
  refine aw_pI at_15_5 rfl (cw_94 (by omega) (by decide) (fun e => ai_15) (fun e => al_15)) ?_
  exact aw_rI at_15_8 rfl
theorem c_15 {X : amX} {d : Nat} {R : amS} {u : Nat → Int64} (hd : 2 ≤ d) (l1 : Int32) (S : amS) : CW X d 15 [.ref 12, .int l1] (wc R u) S (g_15 l1 S) := cw_up (by omega) (fun d' h => by
  subst h
  exact cw_of rfl (by decide) (Nat.le_of_ble_eq_true rfl) rfl (fun e => t_15 (by omega) l1 S))
/-! 16: ListDesk$Functions.firstParameterOf(I)I -/
theorem at_16_0 : am_at am_m16 0 = some (.aload 0, 1, 0) := rfl
theorem at_16_1 : am_at am_m16 1 = some (.getfield 103, 3, 21) := rfl
theorem at_16_4 : am_at am_m16 4 = some (.iload 1, 1, 0) := rfl
theorem at_16_5 : am_at am_m16 5 = some (.invokestatic 94, 3, 49) := rfl
theorem at_16_8 : am_at am_m16 8 = some (.ireturn, 1, 0) := rfl
def g_16 (l1 : Int32) (S : amS) : amQ := some (.inl (some (.int (az_rg 28 (S.1 16) l1))), S)
theorem t_16 {X : amX} {d e : Nat} {R : amS} {u : Nat → Int64} (hd : 1 ≤ d)  (l1 : Int32) (S : amS) : AW X d am_m16 (wc R u) e 0 [(0, .ref 12), (1, .int l1)] [] S (g_16 l1 S) := by
  unfold g_16
  refine aw_aload at_16_0 rfl ?_
  refine aw_getf at_16_1 gf_103 ?_
  refine aw_iload at_16_4 rfl ?_
  refine aw_pI at_16_5 rfl (cw_94 (by omega) (by decide) (fun e => ai_16) (fun e => al_16)) ?_
  exact aw_rI at_16_8 rfl
theorem c_16 {X : amX} {d : Nat} {R : amS} {u : Nat → Int64} (hd : 2 ≤ d) (l1 : Int32) (S : amS) : CW X d 16 [.ref 12, .int l1] (wc R u) S (g_16 l1 S) := cw_up (by omega) (fun d' h => by
  subst h
  exact cw_of rfl (by decide) (Nat.le_of_ble_eq_true rfl) rfl (fun e => t_16 (by omega) l1 S))
/-! 17: ListDesk$Functions.takenBy(I)I -/
theorem at_17_0 : am_at am_m17 0 = some (.aload 0, 1, 0) := rfl
theorem at_17_1 : am_at am_m17 1 = some (.getfield 104, 3, 24) := rfl
theorem at_17_4 : am_at am_m17 4 = some (.iload 1, 1, 0) := rfl
theorem at_17_5 : am_at am_m17 5 = some (.invokestatic 94, 3, 49) := rfl
theorem at_17_8 : am_at am_m17 8 = some (.ireturn, 1, 0) := rfl
def g_17 (l1 : Int32) (S : amS) : amQ := some (.inl (some (.int (az_rg 28 (S.1 17) l1))), S)
theorem t_17 {X : amX} {d e : Nat} {R : amS} {u : Nat → Int64} (hd : 1 ≤ d)  (l1 : Int32) (S : amS) : AW X d am_m17 (wc R u) e 0 [(0, .ref 12), (1, .int l1)] [] S (g_17 l1 S) := by
  unfold g_17
  refine aw_aload at_17_0 rfl ?_
  refine aw_getf at_17_1 gf_104 ?_
  refine aw_iload at_17_4 rfl ?_
  refine aw_pI at_17_5 rfl (cw_94 (by omega) (by decide) (fun e => ai_17) (fun e => al_17)) ?_
  exact aw_rI at_17_8 rfl
theorem c_17 {X : amX} {d : Nat} {R : amS} {u : Nat → Int64} (hd : 2 ≤ d) (l1 : Int32) (S : amS) : CW X d 17 [.ref 12, .int l1] (wc R u) S (g_17 l1 S) := cw_up (by omega) (fun d' h => by
  subst h
  exact cw_of rfl (by decide) (Nat.le_of_ble_eq_true rfl) rfl (fun e => t_17 (by omega) l1 S))
/-! 18: ListDesk$Functions.sourceOf(II)I -/
theorem at_18_0 : am_at am_m18 0 = some (.aload 0, 1, 0) := rfl
theorem at_18_1 : am_at am_m18 1 = some (.getfield 106, 3, 30) := rfl
theorem at_18_4 : am_at am_m18 4 = some (.iload 1, 1, 0) := rfl
theorem at_18_5 : am_at am_m18 5 = some (.iconst 26, 2, 1) := rfl
theorem at_18_7 : am_at am_m18 7 = some (.imul, 1, 0) := rfl
theorem at_18_8 : am_at am_m18 8 = some (.iload 2, 1, 0) := rfl
theorem at_18_9 : am_at am_m18 9 = some (.iadd, 1, 0) := rfl
theorem at_18_10 : am_at am_m18 10 = some (.invokestatic 94, 3, 49) := rfl
theorem at_18_13 : am_at am_m18 13 = some (.ireturn, 1, 0) := rfl
def g_18 (l1 : Int32) (l2 : Int32) (S : amS) : amQ := some (.inl (some (.int (az_rg 728 (S.1 19) ((l1 * 26) + l2)))), S)
theorem t_18 {X : amX} {d e : Nat} {R : amS} {u : Nat → Int64} (hd : 1 ≤ d)  (l1 : Int32) (l2 : Int32) (S : amS) : AW X d am_m18 (wc R u) e 0 [(0, .ref 12), (1, .int l1), (2, .int l2)] [] S (g_18 l1 l2 S) := by
  unfold g_18
  refine aw_aload at_18_0 rfl ?_
  refine aw_getf at_18_1 gf_106 ?_
  refine aw_iload at_18_4 rfl ?_
  refine aw_ic 26 at_18_5 ic_26 ?_
  refine aw_imul at_18_7 ?_
  refine aw_iload at_18_8 rfl ?_
  refine aw_iadd at_18_9 ?_
  refine aw_pI at_18_10 rfl (cw_94 (by omega) (by decide) (fun e => ai_19) (fun e => al_19)) ?_
  exact aw_rI at_18_13 rfl
theorem c_18 {X : amX} {d : Nat} {R : amS} {u : Nat → Int64} (hd : 2 ≤ d) (l1 : Int32) (l2 : Int32) (S : amS) : CW X d 18 [.ref 12, .int l1, .int l2] (wc R u) S (g_18 l1 l2 S) := cw_up (by omega) (fun d' h => by
  subst h
  exact cw_of rfl (by decide) (Nat.le_of_ble_eq_true rfl) rfl (fun e => t_18 (by omega) l1 l2 S))
/-! 20: ListDesk$Heap.clear()V -/
theorem at_20_0 : am_at am_m20 0 = some (.aload 0, 1, 0) := rfl
theorem at_20_1 : am_at am_m20 1 = some (.iconst 0, 1, 0) := rfl
theorem at_20_2 : am_at am_m20 2 = some (.putfield 203, 3, 22) := rfl
theorem at_20_5 : am_at am_m20 5 = some (.aload 0, 1, 0) := rfl
theorem at_20_6 : am_at am_m20 6 = some (.iconst 0, 1, 0) := rfl
theorem at_20_7 : am_at am_m20 7 = some (.putfield 204, 3, 26) := rfl
theorem at_20_10 : am_at am_m20 10 = some (.return_, 1, 0) := rfl
def g_20 (S : amS) : amQ := az_st (sI S 25 3 0) fun S1 => az_st (sI S1 25 4 0) fun S2 => some (.inl none, S2)
theorem t_20 {X : amX} {d e : Nat} {R : amS} {u : Nat → Int64} (hd : 0 ≤ d)  (S : amS) : AW X d am_m20 (wc R u) e 0 [(0, .ref 25)] [] S (g_20 S) := by
  unfold g_20
  refine aw_aload at_20_0 rfl ?_
  refine aw_ic 0 at_20_1 ic_0 ?_
  refine aw_putf at_20_2 (pf_203 _) (fun S1 => ?_)
  refine aw_aload at_20_5 rfl ?_
  refine aw_ic 0 at_20_6 ic_0 ?_
  refine aw_putf at_20_7 (pf_204 _) (fun S2 => ?_)
  exact aw_rV at_20_10 rfl
theorem c_20 {X : amX} {d : Nat} {R : amS} {u : Nat → Int64} (hd : 1 ≤ d) (S : amS) : CW X d 20 [.ref 25] (wc R u) S (g_20 S) := cw_up (by omega) (fun d' h => by
  subst h
  exact cw_of rfl (by decide) (Nat.le_of_ble_eq_true rfl) rfl (fun e => t_20 (by omega) S))
/-! 111: ListDesk$Value.of(II)J -/
theorem at_111_0 : am_at am_m111 0 = some (.iload 0, 1, 0) := rfl
theorem at_111_1 : am_at am_m111 1 = some (.i2l, 1, 0) := rfl
theorem at_111_2 : am_at am_m111 2 = some (.iconst 32, 2, 1) := rfl
theorem at_111_4 : am_at am_m111 4 = some (.lshl, 1, 0) := rfl
theorem at_111_5 : am_at am_m111 5 = some (.iload 1, 1, 0) := rfl
theorem at_111_6 : am_at am_m111 6 = some (.i2l, 1, 0) := rfl
theorem at_111_7 : am_at am_m111 7 = some (.jsr_w 4294967295, 3, 9) := rfl
theorem at_111_10 : am_at am_m111 10 = some (.land, 1, 0) := rfl
theorem at_111_11 : am_at am_m111 11 = some (.lor, 1, 0) := rfl
theorem at_111_12 : am_at am_m111 12 = some (.lreturn, 1, 0) := rfl
def g_111 (l0 : Int32) (l1 : Int32) (S : amS) : amQ := some (.inl (some (.long (((Int32.toInt64 l0) <<< ((32 : Int32).toInt64 &&& 63)) ||| ((Int32.toInt64 l1) &&& 4294967295)))), S)
theorem t_111 {X : amX} {d e : Nat} {R : amS} {u : Nat → Int64} (hd : 0 ≤ d)  (l0 : Int32) (l1 : Int32) (S : amS) : AW X d am_m111 (wc R u) e 0 [(0, .int l0), (1, .int l1)] [] S (g_111 l0 l1 S) := by
  unfold g_111
  refine aw_iload at_111_0 rfl ?_
  refine aw_i2l at_111_1 ?_
  refine aw_ic 32 at_111_2 ic_32 ?_
  refine aw_lshl at_111_4 ?_
  refine aw_iload at_111_5 rfl ?_
  refine aw_i2l at_111_6 ?_
  refine aw_lc 4294967295 at_111_7 (by decide) ?_
  refine aw_land at_111_10 ?_
  refine aw_lor at_111_11 ?_
  exact aw_rJ at_111_12 rfl
theorem c_111 {X : amX} {d : Nat} {R : amS} {u : Nat → Int64} (hd : 1 ≤ d) (l0 : Int32) (l1 : Int32) (S : amS) : CW X d 111 [.int l0, .int l1] (wc R u) S (g_111 l0 l1 S) := cw_up (by omega) (fun d' h => by
  subst h
  exact cw_of rfl (by decide) (Nat.le_of_ble_eq_true rfl) rfl (fun e => t_111 (by omega) l0 l1 S))
/-! 21: ListDesk$Heap.make(IJJ)J -/
theorem at_21_0 : am_at am_m21 0 = some (.aload 0, 1, 0) := rfl
theorem at_21_1 : am_at am_m21 1 = some (.getfield 203, 3, 22) := rfl
theorem at_21_4 : am_at am_m21 4 = some (.iconst 2000, 3, 2) := rfl
theorem at_21_7 : am_at am_m21 7 = some (.if_icmp .lt 14, 3, 0) := rfl
theorem at_21_10 : am_at am_m21 10 = some (.jsr_w 21474836480, 3, 31) := rfl
theorem at_21_13 : am_at am_m21 13 = some (.lreturn, 1, 0) := rfl
theorem at_21_14 : am_at am_m21 14 = some (.aload 0, 1, 0) := rfl
theorem at_21_15 : am_at am_m21 15 = some (.getfield 203, 3, 22) := rfl
theorem at_21_18 : am_at am_m21 18 = some (.istore 6, 2, 0) := rfl
theorem at_21_20 : am_at am_m21 20 = some (.aload 0, 1, 0) := rfl
theorem at_21_21 : am_at am_m21 21 = some (.getfield 200, 3, 9) := rfl
theorem at_21_24 : am_at am_m21 24 = some (.iload 6, 2, 0) := rfl
theorem at_21_26 : am_at am_m21 26 = some (.lload 2, 1, 0) := rfl
theorem at_21_27 : am_at am_m21 27 = some (.invokestatic 97, 3, 33) := rfl
theorem at_21_30 : am_at am_m21 30 = some (.aload 0, 1, 0) := rfl
theorem at_21_31 : am_at am_m21 31 = some (.getfield 201, 3, 15) := rfl
theorem at_21_34 : am_at am_m21 34 = some (.iload 6, 2, 0) := rfl
theorem at_21_36 : am_at am_m21 36 = some (.lload 4, 2, 0) := rfl
theorem at_21_38 : am_at am_m21 38 = some (.invokestatic 97, 3, 33) := rfl
theorem at_21_41 : am_at am_m21 41 = some (.aload 0, 1, 0) := rfl
theorem at_21_42 : am_at am_m21 42 = some (.dup, 1, 0) := rfl
theorem at_21_43 : am_at am_m21 43 = some (.getfield 203, 3, 22) := rfl
theorem at_21_46 : am_at am_m21 46 = some (.iconst 1, 1, 0) := rfl
theorem at_21_47 : am_at am_m21 47 = some (.iadd, 1, 0) := rfl
theorem at_21_48 : am_at am_m21 48 = some (.putfield 203, 3, 22) := rfl
theorem at_21_51 : am_at am_m21 51 = some (.iload 1, 1, 0) := rfl
theorem at_21_52 : am_at am_m21 52 = some (.iload 6, 2, 0) := rfl
theorem at_21_54 : am_at am_m21 54 = some (.invokestatic 111, 3, 39) := rfl
theorem at_21_57 : am_at am_m21 57 = some (.lreturn, 1, 0) := rfl
def g_21 (l1 : Int32) (l2 : Int64) (l4 : Int64) (S : amS) : amQ := if (S.1 25 3) < 2000 then az_st (S.1 25 3) fun x1 => az_st (sRJ S 26 2000 x1 l2) fun S2 => az_st (sRJ S2 27 2000 x1 l4) fun S3 => az_st (sI S3 25 3 ((S3.1 25 3) + 1)) fun S4 => az_bJ (g_111 l1 x1 S4) fun x5 S6 => some (.inl (some (.long x5)), S6) else some (.inl (some (.long 21474836480)), S)
theorem t_21 {X : amX} {d e : Nat} {R : amS} {u : Nat → Int64} (hd : 1 ≤ d)  (l1 : Int32) (l2 : Int64) (l4 : Int64) (S : amS) : AW X d am_m21 (wc R u) e 0 [(0, .ref 25), (1, .int l1), (2, .long l2), (4, .long l4)] [] S (g_21 l1 l2 l4 S) := by
  unfold g_21
  refine aw_aload at_21_0 rfl ?_
  refine aw_getf at_21_1 gf_203 ?_
  refine aw_ic 2000 at_21_4 ic_2000 ?_
  refine aw_icmp_lt at_21_7 ?_ ?_
  · refine aw_aload at_21_14 rfl ?_
    refine aw_getf at_21_15 gf_203 ?_
    refine aw_nameI (fun x1 => ?_)
    refine aw_istore at_21_18 (by decide) rfl rfl ?_
    refine aw_aload at_21_20 rfl ?_
    refine aw_getf at_21_21 gf_200 ?_
    refine aw_iload at_21_24 rfl ?_
    refine aw_lload at_21_26 rfl ?_
    refine aw_pV at_21_27 rfl (cw_97 (by omega) (by decide) (fun e => ar_26) (fun e => al_26) (fun e k x => as_26 k x)) (fun S2 => ?_)
    refine aw_aload at_21_30 rfl ?_
    refine aw_getf at_21_31 gf_201 ?_
    refine aw_iload at_21_34 rfl ?_
    refine aw_lload at_21_36 rfl ?_
    refine aw_pV at_21_38 rfl (cw_97 (by omega) (by decide) (fun e => ar_27) (fun e => al_27) (fun e k x => as_27 k x)) (fun S3 => ?_)
    refine aw_aload at_21_41 rfl ?_
    refine aw_dupA at_21_42 ?_
    refine aw_getf at_21_43 gf_203 ?_
    refine aw_ic 1 at_21_46 ic_1 ?_
    refine aw_iadd at_21_47 ?_
    refine aw_putf at_21_48 (pf_203 _) (fun S4 => ?_)
    refine aw_iload at_21_51 rfl ?_
    refine aw_iload at_21_52 rfl ?_
    refine aw_cJ at_21_54 rfl (c_111 (by omega) _ _ _) (fun _ h => by cases h) rfl (fun x5 S6 => ?_)
    exact aw_rJ at_21_57 rfl
  · refine aw_lc 21474836480 at_21_10 (by decide) ?_
    exact aw_rJ at_21_13 rfl
theorem c_21 {X : amX} {d : Nat} {R : amS} {u : Nat → Int64} (hd : 2 ≤ d) (l1 : Int32) (l2 : Int64) (l4 : Int64) (S : amS) : CW X d 21 [.ref 25, .int l1, .long l2, .long l4] (wc R u) S (g_21 l1 l2 l4 S) := cw_up (by omega) (fun d' h => by
  subst h
  exact cw_of rfl (by decide) (Nat.le_of_ble_eq_true rfl) rfl (fun e => t_21 (by omega) l1 l2 l4 S))
/-! 22: ListDesk$Heap.take(J)V -/
theorem at_22_0 : am_at am_m22 0 = some (.aload 0, 1, 0) := rfl
theorem at_22_1 : am_at am_m22 1 = some (.getfield 202, 3, 19) := rfl
theorem at_22_4 : am_at am_m22 4 = some (.aload 0, 1, 0) := rfl
theorem at_22_5 : am_at am_m22 5 = some (.getfield 204, 3, 26) := rfl
theorem at_22_8 : am_at am_m22 8 = some (.lload 1, 1, 0) := rfl
theorem at_22_9 : am_at am_m22 9 = some (.invokestatic 97, 3, 33) := rfl
theorem at_22_12 : am_at am_m22 12 = some (.aload 0, 1, 0) := rfl
theorem at_22_13 : am_at am_m22 13 = some (.dup, 1, 0) := rfl
theorem at_22_14 : am_at am_m22 14 = some (.getfield 204, 3, 26) := rfl
theorem at_22_17 : am_at am_m22 17 = some (.iconst 1, 1, 0) := rfl
theorem at_22_18 : am_at am_m22 18 = some (.iadd, 1, 0) := rfl
theorem at_22_19 : am_at am_m22 19 = some (.putfield 204, 3, 26) := rfl
theorem at_22_22 : am_at am_m22 22 = some (.return_, 1, 0) := rfl
def g_22 (l1 : Int64) (S : amS) : amQ := az_st (sRJ S 28 52000 (S.1 25 4) l1) fun S1 => az_st (sI S1 25 4 ((S1.1 25 4) + 1)) fun S2 => some (.inl none, S2)
theorem t_22 {X : amX} {d e : Nat} {R : amS} {u : Nat → Int64} (hd : 1 ≤ d)  (l1 : Int64) (S : amS) : AW X d am_m22 (wc R u) e 0 [(0, .ref 25), (1, .long l1)] [] S (g_22 l1 S) := by
  unfold g_22
  refine aw_aload at_22_0 rfl ?_
  refine aw_getf at_22_1 gf_202 ?_
  refine aw_aload at_22_4 rfl ?_
  refine aw_getf at_22_5 gf_204 ?_
  refine aw_lload at_22_8 rfl ?_
  refine aw_pV at_22_9 rfl (cw_97 (by omega) (by decide) (fun e => ar_28) (fun e => al_28) (fun e k x => as_28 k x)) (fun S1 => ?_)
  refine aw_aload at_22_12 rfl ?_
  refine aw_dupA at_22_13 ?_
  refine aw_getf at_22_14 gf_204 ?_
  refine aw_ic 1 at_22_17 ic_1 ?_
  refine aw_iadd at_22_18 ?_
  refine aw_putf at_22_19 (pf_204 _) (fun S2 => ?_)
  exact aw_rV at_22_22 rfl
theorem c_22 {X : amX} {d : Nat} {R : amS} {u : Nat → Int64} (hd : 2 ≤ d) (l1 : Int64) (S : amS) : CW X d 22 [.ref 25, .long l1] (wc R u) S (g_22 l1 S) := cw_up (by omega) (fun d' h => by
  subst h
  exact cw_of rfl (by decide) (Nat.le_of_ble_eq_true rfl) rfl (fun e => t_22 (by omega) l1 S))
/-! 113: ListDesk$Value.body(J)I -/
theorem at_113_0 : am_at am_m113 0 = some (.lload 0, 1, 0) := rfl
theorem at_113_1 : am_at am_m113 1 = some (.l2i, 1, 0) := rfl
theorem at_113_2 : am_at am_m113 2 = some (.ireturn, 1, 0) := rfl
def g_113 (l0 : Int64) (S : amS) : amQ := some (.inl (some (.int (Int64.toInt32 l0))), S)
theorem t_113 {X : amX} {d e : Nat} {R : amS} {u : Nat → Int64} (hd : 0 ≤ d)  (l0 : Int64) (S : amS) : AW X d am_m113 (wc R u) e 0 [(0, .long l0)] [] S (g_113 l0 S) := by
  unfold g_113
  refine aw_lload at_113_0 rfl ?_
  refine aw_l2i at_113_1 ?_
  exact aw_rI at_113_2 rfl
theorem c_113 {X : amX} {d : Nat} {R : amS} {u : Nat → Int64} (hd : 1 ≤ d) (l0 : Int64) (S : amS) : CW X d 113 [.long l0] (wc R u) S (g_113 l0 S) := cw_up (by omega) (fun d' h => by
  subst h
  exact cw_of rfl (by decide) (Nat.le_of_ble_eq_true rfl) rfl (fun e => t_113 (by omega) l0 S))
/-! 23: ListDesk$Heap.car(J)J -/
theorem at_23_0 : am_at am_m23 0 = some (.aload 0, 1, 0) := rfl
theorem at_23_1 : am_at am_m23 1 = some (.getfield 200, 3, 9) := rfl
theorem at_23_4 : am_at am_m23 4 = some (.lload 1, 1, 0) := rfl
theorem at_23_5 : am_at am_m23 5 = some (.invokestatic 113, 3, 43) := rfl
theorem at_23_8 : am_at am_m23 8 = some (.invokestatic 96, 3, 47) := rfl
theorem at_23_11 : am_at am_m23 11 = some (.lreturn, 1, 0) := rfl
def g_23 (l1 : Int64) (S : amS) : amQ := az_bI (g_113 l1 S) fun x1 S2 => some (.inl (some (.long (az_rj 2000 (S2.2 26) x1))), S2)
theorem t_23 {X : amX} {d e : Nat} {R : amS} {u : Nat → Int64} (hd : 1 ≤ d)  (l1 : Int64) (S : amS) : AW X d am_m23 (wc R u) e 0 [(0, .ref 25), (1, .long l1)] [] S (g_23 l1 S) := by
  unfold g_23
  refine aw_aload at_23_0 rfl ?_
  refine aw_getf at_23_1 gf_200 ?_
  refine aw_lload at_23_4 rfl ?_
  refine aw_cI at_23_5 rfl (c_113 (by omega) _ _) (fun _ h => by cases h) rfl (fun x1 S2 => ?_)
  refine aw_pJ at_23_8 rfl (cw_96 (by omega) (by decide) (fun e => ar_26) (fun e => al_26)) ?_
  exact aw_rJ at_23_11 rfl
theorem c_23 {X : amX} {d : Nat} {R : amS} {u : Nat → Int64} (hd : 2 ≤ d) (l1 : Int64) (S : amS) : CW X d 23 [.ref 25, .long l1] (wc R u) S (g_23 l1 S) := cw_up (by omega) (fun d' h => by
  subst h
  exact cw_of rfl (by decide) (Nat.le_of_ble_eq_true rfl) rfl (fun e => t_23 (by omega) l1 S))
/-! 24: ListDesk$Heap.cdr(J)J -/
theorem at_24_0 : am_at am_m24 0 = some (.aload 0, 1, 0) := rfl
theorem at_24_1 : am_at am_m24 1 = some (.getfield 201, 3, 15) := rfl
theorem at_24_4 : am_at am_m24 4 = some (.lload 1, 1, 0) := rfl
theorem at_24_5 : am_at am_m24 5 = some (.invokestatic 113, 3, 43) := rfl
theorem at_24_8 : am_at am_m24 8 = some (.invokestatic 96, 3, 47) := rfl
theorem at_24_11 : am_at am_m24 11 = some (.lreturn, 1, 0) := rfl
def g_24 (l1 : Int64) (S : amS) : amQ := az_bI (g_113 l1 S) fun x1 S2 => some (.inl (some (.long (az_rj 2000 (S2.2 27) x1))), S2)
theorem t_24 {X : amX} {d e : Nat} {R : amS} {u : Nat → Int64} (hd : 1 ≤ d)  (l1 : Int64) (S : amS) : AW X d am_m24 (wc R u) e 0 [(0, .ref 25), (1, .long l1)] [] S (g_24 l1 S) := by
  unfold g_24
  refine aw_aload at_24_0 rfl ?_
  refine aw_getf at_24_1 gf_201 ?_
  refine aw_lload at_24_4 rfl ?_
  refine aw_cI at_24_5 rfl (c_113 (by omega) _ _) (fun _ h => by cases h) rfl (fun x1 S2 => ?_)
  refine aw_pJ at_24_8 rfl (cw_96 (by omega) (by decide) (fun e => ar_27) (fun e => al_27)) ?_
  exact aw_rJ at_24_11 rfl
theorem c_24 {X : amX} {d : Nat} {R : amS} {u : Nat → Int64} (hd : 2 ≤ d) (l1 : Int64) (S : amS) : CW X d 24 [.ref 25, .long l1] (wc R u) S (g_24 l1 S) := cw_up (by omega) (fun d' h => by
  subst h
  exact cw_of rfl (by decide) (Nat.le_of_ble_eq_true rfl) rfl (fun e => t_24 (by omega) l1 S))
/-! 25: ListDesk$Heap.lambdaOf(J)I -/
theorem at_25_0 : am_at am_m25 0 = some (.aload 0, 1, 0) := rfl
theorem at_25_1 : am_at am_m25 1 = some (.getfield 200, 3, 9) := rfl
theorem at_25_4 : am_at am_m25 4 = some (.lload 1, 1, 0) := rfl
theorem at_25_5 : am_at am_m25 5 = some (.invokestatic 113, 3, 43) := rfl
theorem at_25_8 : am_at am_m25 8 = some (.invokestatic 96, 3, 47) := rfl
theorem at_25_11 : am_at am_m25 11 = some (.l2i, 1, 0) := rfl
theorem at_25_12 : am_at am_m25 12 = some (.ireturn, 1, 0) := rfl
def g_25 (l1 : Int64) (S : amS) : amQ := az_bI (g_113 l1 S) fun x1 S2 => some (.inl (some (.int (Int64.toInt32 (az_rj 2000 (S2.2 26) x1)))), S2)
theorem t_25 {X : amX} {d e : Nat} {R : amS} {u : Nat → Int64} (hd : 1 ≤ d)  (l1 : Int64) (S : amS) : AW X d am_m25 (wc R u) e 0 [(0, .ref 25), (1, .long l1)] [] S (g_25 l1 S) := by
  unfold g_25
  refine aw_aload at_25_0 rfl ?_
  refine aw_getf at_25_1 gf_200 ?_
  refine aw_lload at_25_4 rfl ?_
  refine aw_cI at_25_5 rfl (c_113 (by omega) _ _) (fun _ h => by cases h) rfl (fun x1 S2 => ?_)
  refine aw_pJ at_25_8 rfl (cw_96 (by omega) (by decide) (fun e => ar_26) (fun e => al_26)) ?_
  refine aw_l2i at_25_11 ?_
  exact aw_rI at_25_12 rfl
theorem c_25 {X : amX} {d : Nat} {R : amS} {u : Nat → Int64} (hd : 2 ≤ d) (l1 : Int64) (S : amS) : CW X d 25 [.ref 25, .long l1] (wc R u) S (g_25 l1 S) := cw_up (by omega) (fun d' h => by
  subst h
  exact cw_of rfl (by decide) (Nat.le_of_ble_eq_true rfl) rfl (fun e => t_25 (by omega) l1 S))
/-! 26: ListDesk$Heap.takenBy(JI)J -/
theorem at_26_0 : am_at am_m26 0 = some (.aload 0, 1, 0) := rfl
theorem at_26_1 : am_at am_m26 1 = some (.getfield 202, 3, 19) := rfl
theorem at_26_4 : am_at am_m26 4 = some (.aload 0, 1, 0) := rfl
theorem at_26_5 : am_at am_m26 5 = some (.getfield 201, 3, 15) := rfl
theorem at_26_8 : am_at am_m26 8 = some (.lload 1, 1, 0) := rfl
theorem at_26_9 : am_at am_m26 9 = some (.invokestatic 113, 3, 43) := rfl
theorem at_26_12 : am_at am_m26 12 = some (.invokestatic 96, 3, 47) := rfl
theorem at_26_15 : am_at am_m26 15 = some (.l2i, 1, 0) := rfl
theorem at_26_16 : am_at am_m26 16 = some (.iload 3, 1, 0) := rfl
theorem at_26_17 : am_at am_m26 17 = some (.iadd, 1, 0) := rfl
theorem at_26_18 : am_at am_m26 18 = some (.invokestatic 96, 3, 47) := rfl
theorem at_26_21 : am_at am_m26 21 = some (.lreturn, 1, 0) := rfl
def g_26 (l1 : Int64) (l3 : Int32) (S : amS) : amQ := az_bI (g_113 l1 S) fun x1 S2 => some (.inl (some (.long (az_rj 52000 (S2.2 28) ((Int64.toInt32 (az_rj 2000 (S2.2 27) x1)) + l3)))), S2)
theorem t_26 {X : amX} {d e : Nat} {R : amS} {u : Nat → Int64} (hd : 1 ≤ d)  (l1 : Int64) (l3 : Int32) (S : amS) : AW X d am_m26 (wc R u) e 0 [(0, .ref 25), (1, .long l1), (3, .int l3)] [] S (g_26 l1 l3 S) := by
  unfold g_26
  refine aw_aload at_26_0 rfl ?_
  refine aw_getf at_26_1 gf_202 ?_
  refine aw_aload at_26_4 rfl ?_
  refine aw_getf at_26_5 gf_201 ?_
  refine aw_lload at_26_8 rfl ?_
  refine aw_cI at_26_9 rfl (c_113 (by omega) _ _) (fun _ h => by cases h) rfl (fun x1 S2 => ?_)
  refine aw_pJ at_26_12 rfl (cw_96 (by omega) (by decide) (fun e => ar_27) (fun e => al_27)) ?_
  refine aw_l2i at_26_15 ?_
  refine aw_iload at_26_16 rfl ?_
  refine aw_iadd at_26_17 ?_
  refine aw_pJ at_26_18 rfl (cw_96 (by omega) (by decide) (fun e => ar_28) (fun e => al_28)) ?_
  exact aw_rJ at_26_21 rfl
theorem c_26 {X : amX} {d : Nat} {R : amS} {u : Nat → Int64} (hd : 2 ≤ d) (l1 : Int64) (l3 : Int32) (S : amS) : CW X d 26 [.ref 25, .long l1, .int l3] (wc R u) S (g_26 l1 l3 S) := cw_up (by omega) (fun d' h => by
  subst h
  exact cw_of rfl (by decide) (Nat.le_of_ble_eq_true rfl) rfl (fun e => t_26 (by omega) l1 l3 S))
/-! 112: ListDesk$Value.tag(J)I -/
theorem at_112_0 : am_at am_m112 0 = some (.lload 0, 1, 0) := rfl
theorem at_112_1 : am_at am_m112 1 = some (.iconst 32, 2, 1) := rfl
theorem at_112_3 : am_at am_m112 3 = some (.lushr, 1, 0) := rfl
theorem at_112_4 : am_at am_m112 4 = some (.l2i, 1, 0) := rfl
theorem at_112_5 : am_at am_m112 5 = some (.ireturn, 1, 0) := rfl
def g_112 (l0 : Int64) (S : amS) : amQ := some (.inl (some (.int (Int64.toInt32 (az_lushr l0 32)))), S)
theorem t_112 {X : amX} {d e : Nat} {R : amS} {u : Nat → Int64} (hd : 0 ≤ d)  (l0 : Int64) (S : amS) : AW X d am_m112 (wc R u) e 0 [(0, .long l0)] [] S (g_112 l0 S) := by
  unfold g_112
  refine aw_lload at_112_0 rfl ?_
  refine aw_ic 32 at_112_1 ic_32 ?_
  refine aw_lushr at_112_3 ?_
  refine aw_l2i at_112_4 ?_
  exact aw_rI at_112_5 rfl
theorem c_112 {X : amX} {d : Nat} {R : amS} {u : Nat → Int64} (hd : 1 ≤ d) (l0 : Int64) (S : amS) : CW X d 112 [.long l0] (wc R u) S (g_112 l0 S) := cw_up (by omega) (fun d' h => by
  subst h
  exact cw_of rfl (by decide) (Nat.le_of_ble_eq_true rfl) rfl (fun e => t_112 (by omega) l0 S))
/-! 27: ListDesk$Heap.unboxed(J)J -/
theorem at_27_0 : am_at am_m27 0 = some (.lload 1, 1, 0) := rfl
theorem at_27_1 : am_at am_m27 1 = some (.invokestatic 112, 3, 51) := rfl
theorem at_27_4 : am_at am_m27 4 = some (.iconst 4, 1, 0) := rfl
theorem at_27_5 : am_at am_m27 5 = some (.if_icmp .ne 22, 3, 0) := rfl
theorem at_27_8 : am_at am_m27 8 = some (.aload 0, 1, 0) := rfl
theorem at_27_9 : am_at am_m27 9 = some (.getfield 200, 3, 9) := rfl
theorem at_27_12 : am_at am_m27 12 = some (.lload 1, 1, 0) := rfl
theorem at_27_13 : am_at am_m27 13 = some (.invokestatic 113, 3, 43) := rfl
theorem at_27_16 : am_at am_m27 16 = some (.invokestatic 96, 3, 47) := rfl
theorem at_27_19 : am_at am_m27 19 = some (.goto 23, 3, 0) := rfl
theorem at_27_22 : am_at am_m27 22 = some (.lload 1, 1, 0) := rfl
theorem at_27_23 : am_at am_m27 23 = some (.lreturn, 1, 0) := rfl
def g_27 (l1 : Int64) (S : amS) : amQ := az_bI (g_112 l1 S) fun x1 S2 => if x1 = 4 then az_bI (g_113 l1 S2) fun x3 S4 => some (.inl (some (.long (az_rj 2000 (S4.2 26) x3))), S4) else some (.inl (some (.long l1)), S2)
theorem t_27 {X : amX} {d e : Nat} {R : amS} {u : Nat → Int64} (hd : 1 ≤ d)  (l1 : Int64) (S : amS) : AW X d am_m27 (wc R u) e 0 [(0, .ref 25), (1, .long l1)] [] S (g_27 l1 S) := by
  unfold g_27
  refine aw_lload at_27_0 rfl ?_
  refine aw_cI at_27_1 rfl (c_112 (by omega) _ _) (fun _ h => by cases h) rfl (fun x1 S2 => ?_)
  refine aw_ic 4 at_27_4 ic_4 ?_
  refine aw_icmp_ne at_27_5 ?_ ?_
  · refine aw_lload at_27_22 rfl ?_
    exact aw_rJ at_27_23 rfl
  · refine aw_aload at_27_8 rfl ?_
    refine aw_getf at_27_9 gf_200 ?_
    refine aw_lload at_27_12 rfl ?_
    refine aw_cI at_27_13 rfl (c_113 (by omega) _ _) (fun _ h => by cases h) rfl (fun x3 S4 => ?_)
    refine aw_pJ at_27_16 rfl (cw_96 (by omega) (by decide) (fun e => ar_26) (fun e => al_26)) ?_
    refine aw_goto at_27_19 ?_
    exact aw_rJ at_27_23 rfl
theorem c_27 {X : amX} {d : Nat} {R : amS} {u : Nat → Int64} (hd : 2 ≤ d) (l1 : Int64) (S : amS) : CW X d 27 [.ref 25, .long l1] (wc R u) S (g_27 l1 S) := cw_up (by omega) (fun d' h => by
  subst h
  exact cw_of rfl (by decide) (Nat.le_of_ble_eq_true rfl) rfl (fun e => t_27 (by omega) l1 S))
/-! 28: ListDesk$Heap.store(JJ)V -/
theorem at_28_0 : am_at am_m28 0 = some (.lload 1, 1, 0) := rfl
theorem at_28_1 : am_at am_m28 1 = some (.invokestatic 112, 3, 51) := rfl
theorem at_28_4 : am_at am_m28 4 = some (.iconst 4, 1, 0) := rfl
theorem at_28_5 : am_at am_m28 5 = some (.if_icmp .ne 20, 3, 0) := rfl
theorem at_28_8 : am_at am_m28 8 = some (.aload 0, 1, 0) := rfl
theorem at_28_9 : am_at am_m28 9 = some (.getfield 200, 3, 9) := rfl
theorem at_28_12 : am_at am_m28 12 = some (.lload 1, 1, 0) := rfl
theorem at_28_13 : am_at am_m28 13 = some (.invokestatic 113, 3, 43) := rfl
theorem at_28_16 : am_at am_m28 16 = some (.lload 3, 1, 0) := rfl
theorem at_28_17 : am_at am_m28 17 = some (.invokestatic 97, 3, 33) := rfl
theorem at_28_20 : am_at am_m28 20 = some (.return_, 1, 0) := rfl
def g_28 (l1 : Int64) (l3 : Int64) (S : amS) : amQ := az_bI (g_112 l1 S) fun x1 S2 => if x1 = 4 then az_bI (g_113 l1 S2) fun x3 S4 => az_st (sRJ S4 26 2000 x3 l3) fun S5 => some (.inl none, S5) else some (.inl none, S2)
theorem t_28 {X : amX} {d e : Nat} {R : amS} {u : Nat → Int64} (hd : 1 ≤ d)  (l1 : Int64) (l3 : Int64) (S : amS) : AW X d am_m28 (wc R u) e 0 [(0, .ref 25), (1, .long l1), (3, .long l3)] [] S (g_28 l1 l3 S) := by
  unfold g_28
  refine aw_lload at_28_0 rfl ?_
  refine aw_cI at_28_1 rfl (c_112 (by omega) _ _) (fun _ h => by cases h) rfl (fun x1 S2 => ?_)
  refine aw_ic 4 at_28_4 ic_4 ?_
  refine aw_icmp_ne at_28_5 ?_ ?_
  · exact aw_rV at_28_20 rfl
  · refine aw_aload at_28_8 rfl ?_
    refine aw_getf at_28_9 gf_200 ?_
    refine aw_lload at_28_12 rfl ?_
    refine aw_cI at_28_13 rfl (c_113 (by omega) _ _) (fun _ h => by cases h) rfl (fun x3 S4 => ?_)
    refine aw_lload at_28_16 rfl ?_
    refine aw_pV at_28_17 rfl (cw_97 (by omega) (by decide) (fun e => ar_26) (fun e => al_26) (fun e k x => as_26 k x)) (fun S5 => ?_)
    exact aw_rV at_28_20 rfl
theorem c_28 {X : amX} {d : Nat} {R : amS} {u : Nat → Int64} (hd : 2 ≤ d) (l1 : Int64) (l3 : Int64) (S : amS) : CW X d 28 [.ref 25, .long l1, .long l3] (wc R u) S (g_28 l1 l3 S) := cw_up (by omega) (fun d' h => by
  subst h
  exact cw_of rfl (by decide) (Nat.le_of_ble_eq_true rfl) rfl (fun e => t_28 (by omega) l1 l3 S))
/-! 66: ListDesk$Output.clear()V -/
theorem at_66_0 : am_at am_m66 0 = some (.aload 0, 1, 0) := rfl
theorem at_66_1 : am_at am_m66 1 = some (.iconst 0, 1, 0) := rfl
theorem at_66_2 : am_at am_m66 2 = some (.putfield 501, 3, 15) := rfl
theorem at_66_5 : am_at am_m66 5 = some (.return_, 1, 0) := rfl
def g_66 (S : amS) : amQ := az_st (sI S 29 1 0) fun S1 => some (.inl none, S1)
theorem t_66 {X : amX} {d e : Nat} {R : amS} {u : Nat → Int64} (hd : 0 ≤ d)  (S : amS) : AW X d am_m66 (wc R u) e 0 [(0, .ref 29)] [] S (g_66 S) := by
  unfold g_66
  refine aw_aload at_66_0 rfl ?_
  refine aw_ic 0 at_66_1 ic_0 ?_
  refine aw_putf at_66_2 (pf_501 _) (fun S1 => ?_)
  exact aw_rV at_66_5 rfl
theorem c_66 {X : amX} {d : Nat} {R : amS} {u : Nat → Int64} (hd : 1 ≤ d) (S : amS) : CW X d 66 [.ref 29] (wc R u) S (g_66 S) := cw_up (by omega) (fun d' h => by
  subst h
  exact cw_of rfl (by decide) (Nat.le_of_ble_eq_true rfl) rfl (fun e => t_66 (by omega) S))
/-! 30: ListDesk$Machine.clear()V -/
theorem at_30_0 : am_at am_m30 0 = some (.aload 0, 1, 0) := rfl
theorem at_30_1 : am_at am_m30 1 = some (.getfield 303, 3, 26) := rfl
theorem at_30_4 : am_at am_m30 4 = some (.invokevirtual 20, 3, 55) := rfl
theorem at_30_7 : am_at am_m30 7 = some (.aload 0, 1, 0) := rfl
theorem at_30_8 : am_at am_m30 8 = some (.getfield 304, 3, 33) := rfl
theorem at_30_11 : am_at am_m30 11 = some (.invokevirtual 66, 3, 58) := rfl
theorem at_30_14 : am_at am_m30 14 = some (.aload 0, 1, 0) := rfl
theorem at_30_15 : am_at am_m30 15 = some (.iconst 0, 1, 0) := rfl
theorem at_30_16 : am_at am_m30 16 = some (.putfield 308, 3, 59) := rfl
theorem at_30_19 : am_at am_m30 19 = some (.aload 0, 1, 0) := rfl
theorem at_30_20 : am_at am_m30 20 = some (.iconst 0, 1, 0) := rfl
theorem at_30_21 : am_at am_m30 21 = some (.putfield 309, 3, 62) := rfl
theorem at_30_24 : am_at am_m30 24 = some (.aload 0, 1, 0) := rfl
theorem at_30_25 : am_at am_m30 25 = some (.iconst 0, 1, 0) := rfl
theorem at_30_26 : am_at am_m30 26 = some (.putfield 310, 3, 65) := rfl
theorem at_30_29 : am_at am_m30 29 = some (.aload 0, 1, 0) := rfl
theorem at_30_30 : am_at am_m30 30 = some (.iconst 0, 1, 0) := rfl
theorem at_30_31 : am_at am_m30 31 = some (.putfield 311, 3, 68) := rfl
theorem at_30_34 : am_at am_m30 34 = some (.aload 0, 1, 0) := rfl
theorem at_30_35 : am_at am_m30 35 = some (.iconst 0, 1, 0) := rfl
theorem at_30_36 : am_at am_m30 36 = some (.putfield 312, 3, 71) := rfl
theorem at_30_39 : am_at am_m30 39 = some (.aload 0, 1, 0) := rfl
theorem at_30_40 : am_at am_m30 40 = some (.iconst 0, 1, 0) := rfl
theorem at_30_41 : am_at am_m30 41 = some (.putfield 313, 3, 48) := rfl
theorem at_30_44 : am_at am_m30 44 = some (.aload 0, 1, 0) := rfl
theorem at_30_45 : am_at am_m30 45 = some (.iconst (-1), 1, 0) := rfl
theorem at_30_46 : am_at am_m30 46 = some (.putfield 314, 3, 52) := rfl
theorem at_30_49 : am_at am_m30 49 = some (.return_, 1, 0) := rfl
def g_30 (S : amS) : amQ := az_bV (g_20 S) fun S1 => az_bV (g_66 S1) fun S2 => az_st (sI S2 24 8 0) fun S3 => az_st (sI S3 24 9 0) fun S4 => az_st (sI S4 24 10 0) fun S5 => az_st (sI S5 24 11 0) fun S6 => az_st (sI S6 24 12 0) fun S7 => az_st (sI S7 24 13 0) fun S8 => az_st (sI S8 24 14 ((-1))) fun S9 => some (.inl none, S9)
theorem t_30 {X : amX} {d e : Nat} {R : amS} {u : Nat → Int64} (hd : 1 ≤ d)  (S : amS) : AW X d am_m30 (wc R u) e 0 [(0, .ref 24)] [] S (g_30 S) := by
  unfold g_30
  refine aw_aload at_30_0 rfl ?_
  refine aw_getf at_30_1 gf_303 ?_
  refine aw_cV at_30_4 rfl (c_20 (by omega) _) (fun _ h => by cases h) rfl (fun S1 => ?_)
  refine aw_aload at_30_7 rfl ?_
  refine aw_getf at_30_8 gf_304 ?_
  refine aw_cV at_30_11 rfl (c_66 (by omega) _) (fun _ h => by cases h) rfl (fun S2 => ?_)
  refine aw_aload at_30_14 rfl ?_
  refine aw_ic 0 at_30_15 ic_0 ?_
  refine aw_putf at_30_16 (pf_308 _) (fun S3 => ?_)
  refine aw_aload at_30_19 rfl ?_
  refine aw_ic 0 at_30_20 ic_0 ?_
  refine aw_putf at_30_21 (pf_309 _) (fun S4 => ?_)
  refine aw_aload at_30_24 rfl ?_
  refine aw_ic 0 at_30_25 ic_0 ?_
  refine aw_putf at_30_26 (pf_310 _) (fun S5 => ?_)
  refine aw_aload at_30_29 rfl ?_
  refine aw_ic 0 at_30_30 ic_0 ?_
  refine aw_putf at_30_31 (pf_311 _) (fun S6 => ?_)
  refine aw_aload at_30_34 rfl ?_
  refine aw_ic 0 at_30_35 ic_0 ?_
  refine aw_putf at_30_36 (pf_312 _) (fun S7 => ?_)
  refine aw_aload at_30_39 rfl ?_
  refine aw_ic 0 at_30_40 ic_0 ?_
  refine aw_putf at_30_41 (pf_313 _) (fun S8 => ?_)
  refine aw_aload at_30_44 rfl ?_
  refine aw_ic (-1) at_30_45 ic_m1 ?_
  refine aw_putf at_30_46 (pf_314 _) (fun S9 => ?_)
  exact aw_rV at_30_49 rfl
theorem c_30 {X : amX} {d : Nat} {R : amS} {u : Nat → Int64} (hd : 2 ≤ d) (S : amS) : CW X d 30 [.ref 24] (wc R u) S (g_30 S) := cw_up (by omega) (fun d' h => by
  subst h
  exact cw_of rfl (by decide) (Nat.le_of_ble_eq_true rfl) rfl (fun e => t_30 (by omega) S))
/-! 31: ListDesk$Machine.begin()V -/
theorem at_31_0 : am_at am_m31 0 = some (.aload 0, 1, 0) := rfl
theorem at_31_1 : am_at am_m31 1 = some (.iconst 2, 1, 0) := rfl
theorem at_31_2 : am_at am_m31 2 = some (.putfield 313, 3, 48) := rfl
theorem at_31_5 : am_at am_m31 5 = some (.return_, 1, 0) := rfl
def g_31 (S : amS) : amQ := az_st (sI S 24 13 2) fun S1 => some (.inl none, S1)
theorem t_31 {X : amX} {d e : Nat} {R : amS} {u : Nat → Int64} (hd : 0 ≤ d)  (S : amS) : AW X d am_m31 (wc R u) e 0 [(0, .ref 24)] [] S (g_31 S) := by
  unfold g_31
  refine aw_aload at_31_0 rfl ?_
  refine aw_ic 2 at_31_1 ic_2 ?_
  refine aw_putf at_31_2 (pf_313 _) (fun S1 => ?_)
  exact aw_rV at_31_5 rfl
theorem c_31 {X : amX} {d : Nat} {R : amS} {u : Nat → Int64} (hd : 1 ≤ d) (S : amS) : CW X d 31 [.ref 24] (wc R u) S (g_31 S) := cw_up (by omega) (fun d' h => by
  subst h
  exact cw_of rfl (by decide) (Nat.le_of_ble_eq_true rfl) rfl (fun e => t_31 (by omega) S))
/-! 37: ListDesk$Machine.push(J)V -/
theorem at_37_0 : am_at am_m37 0 = some (.aload 0, 1, 0) := rfl
theorem at_37_1 : am_at am_m37 1 = some (.getfield 305, 3, 37) := rfl
theorem at_37_4 : am_at am_m37 4 = some (.aload 0, 1, 0) := rfl
theorem at_37_5 : am_at am_m37 5 = some (.getfield 308, 3, 59) := rfl
theorem at_37_8 : am_at am_m37 8 = some (.lload 1, 1, 0) := rfl
theorem at_37_9 : am_at am_m37 9 = some (.invokestatic 97, 3, 166) := rfl
theorem at_37_12 : am_at am_m37 12 = some (.aload 0, 1, 0) := rfl
theorem at_37_13 : am_at am_m37 13 = some (.dup, 1, 0) := rfl
theorem at_37_14 : am_at am_m37 14 = some (.getfield 308, 3, 59) := rfl
theorem at_37_17 : am_at am_m37 17 = some (.iconst 1, 1, 0) := rfl
theorem at_37_18 : am_at am_m37 18 = some (.iadd, 1, 0) := rfl
theorem at_37_19 : am_at am_m37 19 = some (.putfield 308, 3, 59) := rfl
theorem at_37_22 : am_at am_m37 22 = some (.return_, 1, 0) := rfl
def g_37 (l1 : Int64) (S : amS) : amQ := az_st (sRJ S 31 6405 (S.1 24 8) l1) fun S1 => az_st (sI S1 24 8 ((S1.1 24 8) + 1)) fun S2 => some (.inl none, S2)
theorem t_37 {X : amX} {d e : Nat} {R : amS} {u : Nat → Int64} (hd : 1 ≤ d)  (l1 : Int64) (S : amS) : AW X d am_m37 (wc R u) e 0 [(0, .ref 24), (1, .long l1)] [] S (g_37 l1 S) := by
  unfold g_37
  refine aw_aload at_37_0 rfl ?_
  refine aw_getf at_37_1 gf_305 ?_
  refine aw_aload at_37_4 rfl ?_
  refine aw_getf at_37_5 gf_308 ?_
  refine aw_lload at_37_8 rfl ?_
  refine aw_pV at_37_9 rfl (cw_97 (by omega) (by decide) (fun e => ar_31) (fun e => al_31) (fun e k x => as_31 k x)) (fun S1 => ?_)
  refine aw_aload at_37_12 rfl ?_
  refine aw_dupA at_37_13 ?_
  refine aw_getf at_37_14 gf_308 ?_
  refine aw_ic 1 at_37_17 ic_1 ?_
  refine aw_iadd at_37_18 ?_
  refine aw_putf at_37_19 (pf_308 _) (fun S2 => ?_)
  exact aw_rV at_37_22 rfl
theorem c_37 {X : amX} {d : Nat} {R : amS} {u : Nat → Int64} (hd : 2 ≤ d) (l1 : Int64) (S : amS) : CW X d 37 [.ref 24, .long l1] (wc R u) S (g_37 l1 S) := cw_up (by omega) (fun d' h => by
  subst h
  exact cw_of rfl (by decide) (Nat.le_of_ble_eq_true rfl) rfl (fun e => t_37 (by omega) l1 S))
/-! 35: ListDesk$Machine.stop(II)V -/
theorem at_35_0 : am_at am_m35 0 = some (.aload 0, 1, 0) := rfl
theorem at_35_1 : am_at am_m35 1 = some (.iload 1, 1, 0) := rfl
theorem at_35_2 : am_at am_m35 2 = some (.putfield 313, 3, 48) := rfl
theorem at_35_5 : am_at am_m35 5 = some (.aload 0, 1, 0) := rfl
theorem at_35_6 : am_at am_m35 6 = some (.iload 2, 1, 0) := rfl
theorem at_35_7 : am_at am_m35 7 = some (.putfield 314, 3, 52) := rfl
theorem at_35_10 : am_at am_m35 10 = some (.return_, 1, 0) := rfl
def g_35 (l1 : Int32) (l2 : Int32) (S : amS) : amQ := az_st (sI S 24 13 l1) fun S1 => az_st (sI S1 24 14 l2) fun S2 => some (.inl none, S2)
theorem t_35 {X : amX} {d e : Nat} {R : amS} {u : Nat → Int64} (hd : 0 ≤ d)  (l1 : Int32) (l2 : Int32) (S : amS) : AW X d am_m35 (wc R u) e 0 [(0, .ref 24), (1, .int l1), (2, .int l2)] [] S (g_35 l1 l2 S) := by
  unfold g_35
  refine aw_aload at_35_0 rfl ?_
  refine aw_iload at_35_1 rfl ?_
  refine aw_putf at_35_2 (pf_313 _) (fun S1 => ?_)
  refine aw_aload at_35_5 rfl ?_
  refine aw_iload at_35_6 rfl ?_
  refine aw_putf at_35_7 (pf_314 _) (fun S2 => ?_)
  exact aw_rV at_35_10 rfl
theorem c_35 {X : amX} {d : Nat} {R : amS} {u : Nat → Int64} (hd : 1 ≤ d) (l1 : Int32) (l2 : Int32) (S : amS) : CW X d 35 [.ref 24, .int l1, .int l2] (wc R u) S (g_35 l1 l2 S) := cw_up (by omega) (fun d' h => by
  subst h
  exact cw_of rfl (by decide) (Nat.le_of_ble_eq_true rfl) rfl (fun e => t_35 (by omega) l1 l2 S))
/-! 40: ListDesk$Machine.pushObject(JI)V -/
theorem at_40_0 : am_at am_m40 0 = some (.lload 1, 1, 0) := rfl
theorem at_40_1 : am_at am_m40 1 = some (.jsr_w 21474836480, 3, 170) := rfl
theorem at_40_4 : am_at am_m40 4 = some (.lcmp, 1, 0) := rfl
theorem at_40_5 : am_at am_m40 5 = some (.ifCond .ne 17, 3, 0) := rfl
theorem at_40_8 : am_at am_m40 8 = some (.aload 0, 1, 0) := rfl
theorem at_40_9 : am_at am_m40 9 = some (.iconst 5, 1, 0) := rfl
theorem at_40_10 : am_at am_m40 10 = some (.iload 3, 1, 0) := rfl
theorem at_40_11 : am_at am_m40 11 = some (.invokevirtual 35, 3, 172) := rfl
theorem at_40_14 : am_at am_m40 14 = some (.goto 22, 3, 0) := rfl
theorem at_40_17 : am_at am_m40 17 = some (.aload 0, 1, 0) := rfl
theorem at_40_18 : am_at am_m40 18 = some (.lload 1, 1, 0) := rfl
theorem at_40_19 : am_at am_m40 19 = some (.invokevirtual 37, 3, 113) := rfl
theorem at_40_22 : am_at am_m40 22 = some (.return_, 1, 0) := rfl
def g_40 (l1 : Int64) (l3 : Int32) (S : amS) : amQ := if (lg_cmp l1 21474836480) = 0 then az_bV (g_35 5 l3 S) fun S2 => some (.inl none, S2) else az_bV (g_37 l1 S) fun S1 => some (.inl none, S1)
theorem t_40 {X : amX} {d e : Nat} {R : amS} {u : Nat → Int64} (hd : 2 ≤ d)  (l1 : Int64) (l3 : Int32) (S : amS) : AW X d am_m40 (wc R u) e 0 [(0, .ref 24), (1, .long l1), (3, .int l3)] [] S (g_40 l1 l3 S) := by
  unfold g_40
  refine aw_lload at_40_0 rfl ?_
  refine aw_lc 21474836480 at_40_1 (by decide) ?_
  refine aw_lcmp at_40_4 ?_
  refine aw_if_ne at_40_5 ?_ ?_
  · refine aw_aload at_40_17 rfl ?_
    refine aw_lload at_40_18 rfl ?_
    refine aw_cV at_40_19 rfl (c_37 (by omega) _ _) (fun _ h => by cases h) rfl (fun S1 => ?_)
    exact aw_rV at_40_22 rfl
  · refine aw_aload at_40_8 rfl ?_
    refine aw_ic 5 at_40_9 ic_5 ?_
    refine aw_iload at_40_10 rfl ?_
    refine aw_cV at_40_11 rfl (c_35 (by omega) _ _ _) (fun _ h => by cases h) rfl (fun S2 => ?_)
    refine aw_goto at_40_14 ?_
    exact aw_rV at_40_22 rfl
theorem c_40 {X : amX} {d : Nat} {R : amS} {u : Nat → Int64} (hd : 3 ≤ d) (l1 : Int64) (l3 : Int32) (S : amS) : CW X d 40 [.ref 24, .long l1, .int l3] (wc R u) S (g_40 l1 l3 S) := cw_up (by omega) (fun d' h => by
  subst h
  exact cw_of rfl (by decide) (Nat.le_of_ble_eq_true rfl) rfl (fun e => t_40 (by omega) l1 l3 S))
/-! 36: ListDesk$Machine.inStack(I)J -/
theorem at_36_0 : am_at am_m36 0 = some (.aload 0, 1, 0) := rfl
theorem at_36_1 : am_at am_m36 1 = some (.getfield 305, 3, 37) := rfl
theorem at_36_4 : am_at am_m36 4 = some (.iload 1, 1, 0) := rfl
theorem at_36_5 : am_at am_m36 5 = some (.invokestatic 96, 3, 163) := rfl
theorem at_36_8 : am_at am_m36 8 = some (.lreturn, 1, 0) := rfl
def g_36 (l1 : Int32) (S : amS) : amQ := some (.inl (some (.long (az_rj 6405 (S.2 31) l1))), S)
theorem t_36 {X : amX} {d e : Nat} {R : amS} {u : Nat → Int64} (hd : 1 ≤ d)  (l1 : Int32) (S : amS) : AW X d am_m36 (wc R u) e 0 [(0, .ref 24), (1, .int l1)] [] S (g_36 l1 S) := by
  unfold g_36
  refine aw_aload at_36_0 rfl ?_
  refine aw_getf at_36_1 gf_305 ?_
  refine aw_iload at_36_4 rfl ?_
  refine aw_pJ at_36_5 rfl (cw_96 (by omega) (by decide) (fun e => ar_31) (fun e => al_31)) ?_
  exact aw_rJ at_36_8 rfl
theorem c_36 {X : amX} {d : Nat} {R : amS} {u : Nat → Int64} (hd : 2 ≤ d) (l1 : Int32) (S : amS) : CW X d 36 [.ref 24, .int l1] (wc R u) S (g_36 l1 S) := cw_up (by omega) (fun d' h => by
  subst h
  exact cw_of rfl (by decide) (Nat.le_of_ble_eq_true rfl) rfl (fun e => t_36 (by omega) l1 S))
/-! 41: ListDesk$Machine.find(I)J -/
theorem at_41_0 : am_at am_m41 0 = some (.iload 1, 1, 0) := rfl
theorem at_41_1 : am_at am_m41 1 = some (.ifCond .lt 17, 3, 0) := rfl
theorem at_41_4 : am_at am_m41 4 = some (.aload 0, 1, 0) := rfl
theorem at_41_5 : am_at am_m41 5 = some (.aload 0, 1, 0) := rfl
theorem at_41_6 : am_at am_m41 6 = some (.getfield 309, 3, 62) := rfl
theorem at_41_9 : am_at am_m41 9 = some (.iload 1, 1, 0) := rfl
theorem at_41_10 : am_at am_m41 10 = some (.iadd, 1, 0) := rfl
theorem at_41_11 : am_at am_m41 11 = some (.invokevirtual 36, 3, 145) := rfl
theorem at_41_14 : am_at am_m41 14 = some (.goto 37, 3, 0) := rfl
theorem at_41_17 : am_at am_m41 17 = some (.aload 0, 1, 0) := rfl
theorem at_41_18 : am_at am_m41 18 = some (.getfield 303, 3, 26) := rfl
theorem at_41_21 : am_at am_m41 21 = some (.aload 0, 1, 0) := rfl
theorem at_41_22 : am_at am_m41 22 = some (.aload 0, 1, 0) := rfl
theorem at_41_23 : am_at am_m41 23 = some (.getfield 309, 3, 62) := rfl
theorem at_41_26 : am_at am_m41 26 = some (.iconst 1, 1, 0) := rfl
theorem at_41_27 : am_at am_m41 27 = some (.isub, 1, 0) := rfl
theorem at_41_28 : am_at am_m41 28 = some (.invokevirtual 36, 3, 145) := rfl
theorem at_41_31 : am_at am_m41 31 = some (.iconst (-1), 1, 0) := rfl
theorem at_41_32 : am_at am_m41 32 = some (.iload 1, 1, 0) := rfl
theorem at_41_33 : am_at am_m41 33 = some (.isub, 1, 0) := rfl
theorem at_41_34 : am_at am_m41 34 = some (.invokevirtual 26, 3, 175) := rfl
theorem at_41_37 : am_at am_m41 37 = some (.lreturn, 1, 0) := rfl
def g_41 (l1 : Int32) (S : amS) : amQ := if l1 < 0 then az_bJ (g_36 ((S.1 24 9) - 1) S) fun x1 S2 => az_bJ (g_26 x1 (((-1)) - l1) S2) fun x3 S4 => some (.inl (some (.long x3)), S4) else az_bJ (g_36 ((S.1 24 9) + l1) S) fun x5 S6 => some (.inl (some (.long x5)), S6)
theorem t_41 {X : amX} {d e : Nat} {R : amS} {u : Nat → Int64} (hd : 2 ≤ d)  (l1 : Int32) (S : amS) : AW X d am_m41 (wc R u) e 0 [(0, .ref 24), (1, .int l1)] [] S (g_41 l1 S) := by
  unfold g_41
  refine aw_iload at_41_0 rfl ?_
  refine aw_if_lt at_41_1 ?_ ?_
  · refine aw_aload at_41_17 rfl ?_
    refine aw_getf at_41_18 gf_303 ?_
    refine aw_aload at_41_21 rfl ?_
    refine aw_aload at_41_22 rfl ?_
    refine aw_getf at_41_23 gf_309 ?_
    refine aw_ic 1 at_41_26 ic_1 ?_
    refine aw_isub at_41_27 ?_
    refine aw_cJ at_41_28 rfl (c_36 (by omega) _ _) (fun _ h => by cases h) rfl (fun x1 S2 => ?_)
    refine aw_ic (-1) at_41_31 ic_m1 ?_
    refine aw_iload at_41_32 rfl ?_
    refine aw_isub at_41_33 ?_
    refine aw_cJ at_41_34 rfl (c_26 (by omega) _ _ _) (fun _ h => by cases h) rfl (fun x3 S4 => ?_)
    exact aw_rJ at_41_37 rfl
  · refine aw_aload at_41_4 rfl ?_
    refine aw_aload at_41_5 rfl ?_
    refine aw_getf at_41_6 gf_309 ?_
    refine aw_iload at_41_9 rfl ?_
    refine aw_iadd at_41_10 ?_
    refine aw_cJ at_41_11 rfl (c_36 (by omega) _ _) (fun _ h => by cases h) rfl (fun x5 S6 => ?_)
    refine aw_goto at_41_14 ?_
    exact aw_rJ at_41_37 rfl
theorem c_41 {X : amX} {d : Nat} {R : amS} {u : Nat → Int64} (hd : 3 ≤ d) (l1 : Int32) (S : amS) : CW X d 41 [.ref 24, .int l1] (wc R u) S (g_41 l1 S) := cw_up (by omega) (fun d' h => by
  subst h
  exact cw_of rfl (by decide) (Nat.le_of_ble_eq_true rfl) rfl (fun e => t_41 (by omega) l1 S))
/-! 42: ListDesk$Machine.makeFunction(II)V -/
theorem at_42_0 : am_at am_m42 0 = some (.aload 0, 1, 0) := rfl
theorem at_42_1 : am_at am_m42 1 = some (.getfield 303, 3, 26) := rfl
theorem at_42_4 : am_at am_m42 4 = some (.iconst 3, 1, 0) := rfl
theorem at_42_5 : am_at am_m42 5 = some (.iload 1, 1, 0) := rfl
theorem at_42_6 : am_at am_m42 6 = some (.i2l, 1, 0) := rfl
theorem at_42_7 : am_at am_m42 7 = some (.aload 0, 1, 0) := rfl
theorem at_42_8 : am_at am_m42 8 = some (.getfield 303, 3, 26) := rfl
theorem at_42_11 : am_at am_m42 11 = some (.getfield 10204, 3, 179) := rfl
theorem at_42_14 : am_at am_m42 14 = some (.i2l, 1, 0) := rfl
theorem at_42_15 : am_at am_m42 15 = some (.invokevirtual 21, 3, 130) := rfl
theorem at_42_18 : am_at am_m42 18 = some (.lstore 3, 1, 0) := rfl
theorem at_42_19 : am_at am_m42 19 = some (.lload 3, 1, 0) := rfl
theorem at_42_20 : am_at am_m42 20 = some (.jsr_w 21474836480, 3, 170) := rfl
theorem at_42_23 : am_at am_m42 23 = some (.lcmp, 1, 0) := rfl
theorem at_42_24 : am_at am_m42 24 = some (.ifCond .ne 34, 3, 0) := rfl
theorem at_42_27 : am_at am_m42 27 = some (.aload 0, 1, 0) := rfl
theorem at_42_28 : am_at am_m42 28 = some (.iconst 5, 1, 0) := rfl
theorem at_42_29 : am_at am_m42 29 = some (.iload 2, 1, 0) := rfl
theorem at_42_30 : am_at am_m42 30 = some (.invokevirtual 35, 3, 172) := rfl
theorem at_42_33 : am_at am_m42 33 = some (.return_, 1, 0) := rfl
theorem at_42_34 : am_at am_m42 34 = some (.aload 0, 1, 0) := rfl
theorem at_42_35 : am_at am_m42 35 = some (.getfield 302, 3, 19) := rfl
theorem at_42_38 : am_at am_m42 38 = some (.iload 1, 1, 0) := rfl
theorem at_42_39 : am_at am_m42 39 = some (.invokevirtual 17, 3, 182) := rfl
theorem at_42_42 : am_at am_m42 42 = some (.istore 5, 2, 0) := rfl
theorem at_42_44 : am_at am_m42 44 = some (.iconst 0, 1, 0) := rfl
theorem at_42_45 : am_at am_m42 45 = some (.istore 6, 2, 0) := rfl
theorem at_42_47 : am_at am_m42 47 = some (.iload 6, 2, 0) := rfl
theorem at_42_49 : am_at am_m42 49 = some (.iload 5, 2, 0) := rfl
theorem at_42_51 : am_at am_m42 51 = some (.if_icmp .ge 81, 3, 0) := rfl
theorem at_42_54 : am_at am_m42 54 = some (.aload 0, 1, 0) := rfl
theorem at_42_55 : am_at am_m42 55 = some (.getfield 303, 3, 26) := rfl
theorem at_42_58 : am_at am_m42 58 = some (.aload 0, 1, 0) := rfl
theorem at_42_59 : am_at am_m42 59 = some (.aload 0, 1, 0) := rfl
theorem at_42_60 : am_at am_m42 60 = some (.getfield 302, 3, 19) := rfl
theorem at_42_63 : am_at am_m42 63 = some (.iload 1, 1, 0) := rfl
theorem at_42_64 : am_at am_m42 64 = some (.iload 6, 2, 0) := rfl
theorem at_42_66 : am_at am_m42 66 = some (.invokevirtual 18, 3, 186) := rfl
theorem at_42_69 : am_at am_m42 69 = some (.invokevirtual 41, 3, 119) := rfl
theorem at_42_72 : am_at am_m42 72 = some (.invokevirtual 22, 3, 190) := rfl
theorem at_42_75 : am_at am_m42 75 = some (.iinc 6 1, 3, 0) := rfl
theorem at_42_78 : am_at am_m42 78 = some (.goto 47, 3, 0) := rfl
theorem at_42_81 : am_at am_m42 81 = some (.aload 0, 1, 0) := rfl
theorem at_42_82 : am_at am_m42 82 = some (.lload 3, 1, 0) := rfl
theorem at_42_83 : am_at am_m42 83 = some (.invokevirtual 37, 3, 113) := rfl
theorem at_42_86 : am_at am_m42 86 = some (.aload 0, 1, 0) := rfl
theorem at_42_87 : am_at am_m42 87 = some (.aload 0, 1, 0) := rfl
theorem at_42_88 : am_at am_m42 88 = some (.getfield 302, 3, 19) := rfl
theorem at_42_91 : am_at am_m42 91 = some (.iload 1, 1, 0) := rfl
theorem at_42_92 : am_at am_m42 92 = some (.invokevirtual 14, 3, 193) := rfl
theorem at_42_95 : am_at am_m42 95 = some (.putfield 310, 3, 65) := rfl
theorem at_42_98 : am_at am_m42 98 = some (.return_, 1, 0) := rfl
def h_42_47 (n : Nat) (H47 : Int32 → Int64 → Int32 → Int32 → amS → amQ) (l1 : Int32) (l3 : Int64) (l5 : Int32) (l6 : Int32) (S : amS) : amQ := if l5 ≤ l6 then az_bV (g_37 l3 S) fun S1 => az_bI (g_14 l1 S1) fun x2 S3 => az_st (sI S3 24 10 x2) fun S4 => some (.inl none, S4) else az_bI (g_18 l1 l6 S) fun x5 S6 => az_bJ (g_41 x5 S6) fun x7 S8 => az_bV (g_22 x7 S8) fun S9 => H47 l1 l3 l5 (l6 + 1) S9
def g_42_47 : Nat → Int32 → Int64 → Int32 → Int32 → amS → amQ
  | 0 => fun _ _ _ _ _ => none
  | n + 1 => h_42_47 n (g_42_47 n)
theorem th_42_47 {X : amX} {d e : Nat} {R : amS} {u : Nat → Int64} {H47 : Int32 → Int64 → Int32 → Int32 → amS → amQ} (hd : 3 ≤ d) (n : Nat) (hH47 : ∀ (l1 : Int32) (l3 : Int64) (l5 : Int32) (l6 : Int32) (S : amS), AW X d am_m42 (wc R u) e 47 [(0, .ref 24), (1, .int l1), (3, .long l3), (5, .int l5), (6, .int l6)] [] S (H47 l1 l3 l5 l6 S)) (l1 : Int32) (l3 : Int64) (l5 : Int32) (l6 : Int32)  (S : amS) : AW X d am_m42 (wc R u) e 47 [(0, .ref 24), (1, .int l1), (3, .long l3), (5, .int l5), (6, .int l6)] [] S (h_42_47 n H47 l1 l3 l5 l6 S) := by
  unfold h_42_47
  refine aw_iload at_42_47 rfl ?_
  refine aw_iload at_42_49 rfl ?_
  refine aw_icmp_ge at_42_51 ?_ ?_
  · refine aw_aload at_42_81 rfl ?_
    refine aw_lload at_42_82 rfl ?_
    refine aw_cV at_42_83 rfl (c_37 (by omega) _ _) (fun _ h => by cases h) rfl (fun S1 => ?_)
    refine aw_aload at_42_86 rfl ?_
    refine aw_aload at_42_87 rfl ?_
    refine aw_getf at_42_88 gf_302 ?_
    refine aw_iload at_42_91 rfl ?_
    refine aw_cI at_42_92 rfl (c_14 (by omega) _ _) (fun _ h => by cases h) rfl (fun x2 S3 => ?_)
    refine aw_putf at_42_95 (pf_310 _) (fun S4 => ?_)
    exact aw_rV at_42_98 rfl
  · refine aw_aload at_42_54 rfl ?_
    refine aw_getf at_42_55 gf_303 ?_
    refine aw_aload at_42_58 rfl ?_
    refine aw_aload at_42_59 rfl ?_
    refine aw_getf at_42_60 gf_302 ?_
    refine aw_iload at_42_63 rfl ?_
    refine aw_iload at_42_64 rfl ?_
    refine aw_cI at_42_66 rfl (c_18 (by omega) _ _ _) (fun _ h => by cases h) rfl (fun x5 S6 => ?_)
    refine aw_cJ at_42_69 rfl (c_41 (by omega) _ _) (fun _ h => by cases h) rfl (fun x7 S8 => ?_)
    refine aw_cV at_42_72 rfl (c_22 (by omega) _ _) (fun _ h => by cases h) rfl (fun S9 => ?_)
    refine aw_iinc at_42_75 rfl (by decide) rfl ic_1 rfl ?_
    refine aw_goto at_42_78 ?_
    exact aw_sub (al_cons rfl (al_cons rfl (al_cons rfl (al_cons rfl (al_cons rfl al_nil))))) (hH47 l1 l3 l5 (l6 + 1) S9)
theorem t_42_47 {X : amX} {d e : Nat} {R : amS} {u : Nat → Int64} (hd : 3 ≤ d) : ∀ (n : Nat)  (l1 : Int32) (l3 : Int64) (l5 : Int32) (l6 : Int32) (S : amS), AW X d am_m42 (wc R u) e 47 [(0, .ref 24), (1, .int l1), (3, .long l3), (5, .int l5), (6, .int l6)] [] S (g_42_47 n l1 l3 l5 l6 S)
  | 0, _, _, _, _, _ => aw_none
  | n + 1, l1, l3, l5, l6, S => th_42_47 hd n (t_42_47 hd n) l1 l3 l5 l6 S
def g_42 (n : Nat) (l1 : Int32) (l2 : Int32) (S : amS) : amQ := az_bJ (g_21 3 (Int32.toInt64 l1) (Int32.toInt64 (S.1 25 4)) S) fun x1 S2 => if (lg_cmp x1 21474836480) = 0 then az_bV (g_35 5 l2 S2) fun S5 => some (.inl none, S5) else az_bI (g_17 l1 S2) fun x3 S4 => g_42_47 n l1 x1 x3 0 S4
theorem t_42 {X : amX} {d e : Nat} {R : amS} {u : Nat → Int64} (hd : 3 ≤ d) (n : Nat)  (l1 : Int32) (l2 : Int32) (S : amS) : AW X d am_m42 (wc R u) e 0 [(0, .ref 24), (1, .int l1), (2, .int l2)] [] S (g_42 n l1 l2 S) := by
  unfold g_42
  refine aw_aload at_42_0 rfl ?_
  refine aw_getf at_42_1 gf_303 ?_
  refine aw_ic 3 at_42_4 ic_3 ?_
  refine aw_iload at_42_5 rfl ?_
  refine aw_i2l at_42_6 ?_
  refine aw_aload at_42_7 rfl ?_
  refine aw_getf at_42_8 gf_303 ?_
  refine aw_getf at_42_11 gf_10204 ?_
  refine aw_i2l at_42_14 ?_
  refine aw_cJ at_42_15 rfl (c_21 (by omega) _ _ _ _) (fun _ h => by cases h) rfl (fun x1 S2 => ?_)
  refine aw_lstore at_42_18 (by decide) rfl rfl ?_
  refine aw_lload at_42_19 rfl ?_
  refine aw_lc 21474836480 at_42_20 (by decide) ?_
  refine aw_lcmp at_42_23 ?_
  refine aw_if_ne at_42_24 ?_ ?_
  · refine aw_aload at_42_34 rfl ?_
    refine aw_getf at_42_35 gf_302 ?_
    refine aw_iload at_42_38 rfl ?_
    refine aw_cI at_42_39 rfl (c_17 (by omega) _ _) (fun _ h => by cases h) rfl (fun x3 S4 => ?_)
    refine aw_istore at_42_42 (by decide) rfl rfl ?_
    refine aw_ic 0 at_42_44 ic_0 ?_
    refine aw_istore at_42_45 (by decide) rfl rfl ?_
    exact aw_sub (al_cons rfl (al_cons rfl (al_cons rfl (al_cons rfl (al_cons rfl al_nil))))) (t_42_47 (by omega) n l1 x1 x3 0 S4)
  · refine aw_aload at_42_27 rfl ?_
    refine aw_ic 5 at_42_28 ic_5 ?_
    refine aw_iload at_42_29 rfl ?_
    refine aw_cV at_42_30 rfl (c_35 (by omega) _ _ _) (fun _ h => by cases h) rfl (fun S5 => ?_)
    exact aw_rV at_42_33 rfl
theorem c_42 {X : amX} {d : Nat} {R : amS} {u : Nat → Int64} (hd : 4 ≤ d) (n : Nat) (l1 : Int32) (l2 : Int32) (S : amS) : CW X d 42 [.ref 24, .int l1, .int l2] (wc R u) S (g_42 n l1 l2 S) := cw_up (by omega) (fun d' h => by
  subst h
  exact cw_of rfl (by decide) (Nat.le_of_ble_eq_true rfl) rfl (fun e => t_42 (by omega) n l1 l2 S))
/-! 33: ListDesk$Machine.beginExpression(III)V -/
theorem at_33_0 : am_at am_m33 0 = some (.iload 1, 1, 0) := rfl
theorem at_33_1 : am_at am_m33 1 = some (.tableswitch 108 2 6 #[36, 48, 58, 77, 86], 35, 0) := rfl
theorem at_33_36 : am_at am_m33 36 = some (.aload 0, 1, 0) := rfl
theorem at_33_37 : am_at am_m33 37 = some (.iconst 0, 1, 0) := rfl
theorem at_33_38 : am_at am_m33 38 = some (.iload 2, 1, 0) := rfl
theorem at_33_39 : am_at am_m33 39 = some (.invokestatic 111, 3, 109) := rfl
theorem at_33_42 : am_at am_m33 42 = some (.invokevirtual 37, 3, 113) := rfl
theorem at_33_45 : am_at am_m33 45 = some (.goto 108, 3, 0) := rfl
theorem at_33_48 : am_at am_m33 48 = some (.aload 0, 1, 0) := rfl
theorem at_33_49 : am_at am_m33 49 = some (.jsr_w 4294967296, 3, 117) := rfl
theorem at_33_52 : am_at am_m33 52 = some (.invokevirtual 37, 3, 113) := rfl
theorem at_33_55 : am_at am_m33 55 = some (.goto 108, 3, 0) := rfl
theorem at_33_58 : am_at am_m33 58 = some (.aload 0, 1, 0) := rfl
theorem at_33_59 : am_at am_m33 59 = some (.aload 0, 1, 0) := rfl
theorem at_33_60 : am_at am_m33 60 = some (.getfield 303, 3, 26) := rfl
theorem at_33_63 : am_at am_m33 63 = some (.aload 0, 1, 0) := rfl
theorem at_33_64 : am_at am_m33 64 = some (.iload 2, 1, 0) := rfl
theorem at_33_65 : am_at am_m33 65 = some (.invokevirtual 41, 3, 119) := rfl
theorem at_33_68 : am_at am_m33 68 = some (.invokevirtual 27, 3, 123) := rfl
theorem at_33_71 : am_at am_m33 71 = some (.invokevirtual 37, 3, 113) := rfl
theorem at_33_74 : am_at am_m33 74 = some (.goto 108, 3, 0) := rfl
theorem at_33_77 : am_at am_m33 77 = some (.aload 0, 1, 0) := rfl
theorem at_33_78 : am_at am_m33 78 = some (.iload 2, 1, 0) := rfl
theorem at_33_79 : am_at am_m33 79 = some (.iload 3, 1, 0) := rfl
theorem at_33_80 : am_at am_m33 80 = some (.invokevirtual 42, 3, 127) := rfl
theorem at_33_83 : am_at am_m33 83 = some (.goto 108, 3, 0) := rfl
theorem at_33_86 : am_at am_m33 86 = some (.aload 0, 1, 0) := rfl
theorem at_33_87 : am_at am_m33 87 = some (.aload 0, 1, 0) := rfl
theorem at_33_88 : am_at am_m33 88 = some (.getfield 303, 3, 26) := rfl
theorem at_33_91 : am_at am_m33 91 = some (.iconst 4, 1, 0) := rfl
theorem at_33_92 : am_at am_m33 92 = some (.jsr_w 4294967296, 3, 117) := rfl
theorem at_33_95 : am_at am_m33 95 = some (.jsr_w 4294967296, 3, 117) := rfl
theorem at_33_98 : am_at am_m33 98 = some (.invokevirtual 21, 3, 130) := rfl
theorem at_33_101 : am_at am_m33 101 = some (.iload 3, 1, 0) := rfl
theorem at_33_102 : am_at am_m33 102 = some (.invokevirtual 40, 3, 134) := rfl
theorem at_33_105 : am_at am_m33 105 = some (.goto 108, 3, 0) := rfl
theorem at_33_108 : am_at am_m33 108 = some (.return_, 1, 0) := rfl
def g_33 (n : Nat) (l1 : Int32) (l2 : Int32) (l3 : Int32) (S : amS) : amQ := if l1 = 2 then (az_bJ (g_111 0 l2 S) fun x1 S2 => az_bV (g_37 x1 S2) fun S3 => some (.inl none, S3)) else if l1 = 3 then (az_bV (g_37 4294967296 S) fun S4 => some (.inl none, S4)) else if l1 = 4 then (az_bJ (g_41 l2 S) fun x5 S6 => az_bJ (g_27 x5 S6) fun x7 S8 => az_bV (g_37 x7 S8) fun S9 => some (.inl none, S9)) else if l1 = 5 then (az_bV (g_42 n l2 l3 S) fun S10 => some (.inl none, S10)) else if l1 = 6 then (az_bJ (g_21 4 4294967296 4294967296 S) fun x11 S12 => az_bV (g_40 x11 l3 S12) fun S13 => some (.inl none, S13)) else some (.inl none, S)
theorem t_33 {X : amX} {d e : Nat} {R : amS} {u : Nat → Int64} (hd : 4 ≤ d) (n : Nat)  (l1 : Int32) (l2 : Int32) (l3 : Int32) (S : amS) : AW X d am_m33 (wc R u) e 0 [(0, .ref 24), (1, .int l1), (2, .int l2), (3, .int l3)] [] S (g_33 n l1 l2 l3 S) := by
  unfold g_33
  refine aw_iload at_33_0 rfl ?_
  refine aw_case 2 ?_ (fun h102 => ?_)
  · refine aw_tin 36 at_33_1 (by decide) ?_
    refine aw_aload at_33_36 rfl ?_
    refine aw_ic 0 at_33_37 ic_0 ?_
    refine aw_iload at_33_38 rfl ?_
    refine aw_cJ at_33_39 rfl (c_111 (by omega) _ _ _) (fun _ h => by cases h) rfl (fun x1 S2 => ?_)
    refine aw_cV at_33_42 rfl (c_37 (by omega) _ _) (fun _ h => by cases h) rfl (fun S3 => ?_)
    refine aw_goto at_33_45 ?_
    exact aw_rV at_33_108 rfl
  refine aw_case 3 ?_ (fun h103 => ?_)
  · refine aw_tin 48 at_33_1 (by decide) ?_
    refine aw_aload at_33_48 rfl ?_
    refine aw_lc 4294967296 at_33_49 (by decide) ?_
    refine aw_cV at_33_52 rfl (c_37 (by omega) _ _) (fun _ h => by cases h) rfl (fun S4 => ?_)
    refine aw_goto at_33_55 ?_
    exact aw_rV at_33_108 rfl
  refine aw_case 4 ?_ (fun h104 => ?_)
  · refine aw_tin 58 at_33_1 (by decide) ?_
    refine aw_aload at_33_58 rfl ?_
    refine aw_aload at_33_59 rfl ?_
    refine aw_getf at_33_60 gf_303 ?_
    refine aw_aload at_33_63 rfl ?_
    refine aw_iload at_33_64 rfl ?_
    refine aw_cJ at_33_65 rfl (c_41 (by omega) _ _) (fun _ h => by cases h) rfl (fun x5 S6 => ?_)
    refine aw_cJ at_33_68 rfl (c_27 (by omega) _ _) (fun _ h => by cases h) rfl (fun x7 S8 => ?_)
    refine aw_cV at_33_71 rfl (c_37 (by omega) _ _) (fun _ h => by cases h) rfl (fun S9 => ?_)
    refine aw_goto at_33_74 ?_
    exact aw_rV at_33_108 rfl
  refine aw_case 5 ?_ (fun h105 => ?_)
  · refine aw_tin 77 at_33_1 (by decide) ?_
    refine aw_aload at_33_77 rfl ?_
    refine aw_iload at_33_78 rfl ?_
    refine aw_iload at_33_79 rfl ?_
    refine aw_cV at_33_80 rfl (c_42 (by omega) n _ _ _) (fun _ h => by cases h) rfl (fun S10 => ?_)
    refine aw_goto at_33_83 ?_
    exact aw_rV at_33_108 rfl
  refine aw_case 6 ?_ (fun h106 => ?_)
  · refine aw_tin 86 at_33_1 (by decide) ?_
    refine aw_aload at_33_86 rfl ?_
    refine aw_aload at_33_87 rfl ?_
    refine aw_getf at_33_88 gf_303 ?_
    refine aw_ic 4 at_33_91 ic_4 ?_
    refine aw_lc 4294967296 at_33_92 (by decide) ?_
    refine aw_lc 4294967296 at_33_95 (by decide) ?_
    refine aw_cJ at_33_98 rfl (c_21 (by omega) _ _ _ _) (fun _ h => by cases h) rfl (fun x11 S12 => ?_)
    refine aw_iload at_33_101 rfl ?_
    refine aw_cV at_33_102 rfl (c_40 (by omega) _ _ _) (fun _ h => by cases h) rfl (fun S13 => ?_)
    refine aw_goto at_33_105 ?_
    exact aw_rV at_33_108 rfl
  have h102 := az_ne 2 (n := 2) (by decide) h102
  have h103 := az_ne 3 (n := 3) (by decide) h103
  have h104 := az_ne 4 (n := 4) (by decide) h104
  have h105 := az_ne 5 (n := 5) (by decide) h105
  have h106 := az_ne 6 (n := 6) (by decide) h106
  refine aw_tout at_33_1 (by omega) ?_
  exact aw_rV at_33_108 rfl
theorem c_33 {X : amX} {d : Nat} {R : amS} {u : Nat → Int64} (hd : 5 ≤ d) (n : Nat) (l1 : Int32) (l2 : Int32) (l3 : Int32) (S : amS) : CW X d 33 [.ref 24, .int l1, .int l2, .int l3] (wc R u) S (g_33 n l1 l2 l3 S) := cw_up (by omega) (fun d' h => by
  subst h
  exact cw_of rfl (by decide) (Nat.le_of_ble_eq_true rfl) rfl (fun e => t_33 (by omega) n l1 l2 l3 S))
/-! 38: ListDesk$Machine.pop()J -/
theorem at_38_0 : am_at am_m38 0 = some (.aload 0, 1, 0) := rfl
theorem at_38_1 : am_at am_m38 1 = some (.dup, 1, 0) := rfl
theorem at_38_2 : am_at am_m38 2 = some (.getfield 308, 3, 59) := rfl
theorem at_38_5 : am_at am_m38 5 = some (.iconst 1, 1, 0) := rfl
theorem at_38_6 : am_at am_m38 6 = some (.isub, 1, 0) := rfl
theorem at_38_7 : am_at am_m38 7 = some (.putfield 308, 3, 59) := rfl
theorem at_38_10 : am_at am_m38 10 = some (.aload 0, 1, 0) := rfl
theorem at_38_11 : am_at am_m38 11 = some (.aload 0, 1, 0) := rfl
theorem at_38_12 : am_at am_m38 12 = some (.getfield 308, 3, 59) := rfl
theorem at_38_15 : am_at am_m38 15 = some (.invokevirtual 36, 3, 145) := rfl
theorem at_38_18 : am_at am_m38 18 = some (.lreturn, 1, 0) := rfl
def g_38 (S : amS) : amQ := az_st (sI S 24 8 ((S.1 24 8) - 1)) fun S1 => az_bJ (g_36 (S1.1 24 8) S1) fun x2 S3 => some (.inl (some (.long x2)), S3)
theorem t_38 {X : amX} {d e : Nat} {R : amS} {u : Nat → Int64} (hd : 2 ≤ d)  (S : amS) : AW X d am_m38 (wc R u) e 0 [(0, .ref 24)] [] S (g_38 S) := by
  unfold g_38
  refine aw_aload at_38_0 rfl ?_
  refine aw_dupA at_38_1 ?_
  refine aw_getf at_38_2 gf_308 ?_
  refine aw_ic 1 at_38_5 ic_1 ?_
  refine aw_isub at_38_6 ?_
  refine aw_putf at_38_7 (pf_308 _) (fun S1 => ?_)
  refine aw_aload at_38_10 rfl ?_
  refine aw_aload at_38_11 rfl ?_
  refine aw_getf at_38_12 gf_308 ?_
  refine aw_cJ at_38_15 rfl (c_36 (by omega) _ _) (fun _ h => by cases h) rfl (fun x2 S3 => ?_)
  exact aw_rJ at_38_18 rfl
theorem c_38 {X : amX} {d : Nat} {R : amS} {u : Nat → Int64} (hd : 3 ≤ d) (S : amS) : CW X d 38 [.ref 24] (wc R u) S (g_38 S) := cw_up (by omega) (fun d' h => by
  subst h
  exact cw_of rfl (by decide) (Nat.le_of_ble_eq_true rfl) rfl (fun e => t_38 (by omega) S))
/-! 39: ListDesk$Machine.dropTo(I)V -/
theorem at_39_0 : am_at am_m39 0 = some (.aload 0, 1, 0) := rfl
theorem at_39_1 : am_at am_m39 1 = some (.aload 0, 1, 0) := rfl
theorem at_39_2 : am_at am_m39 2 = some (.getfield 308, 3, 59) := rfl
theorem at_39_5 : am_at am_m39 5 = some (.iconst 1, 1, 0) := rfl
theorem at_39_6 : am_at am_m39 6 = some (.isub, 1, 0) := rfl
theorem at_39_7 : am_at am_m39 7 = some (.invokevirtual 36, 3, 145) := rfl
theorem at_39_10 : am_at am_m39 10 = some (.lstore 2, 1, 0) := rfl
theorem at_39_11 : am_at am_m39 11 = some (.aload 0, 1, 0) := rfl
theorem at_39_12 : am_at am_m39 12 = some (.iload 1, 1, 0) := rfl
theorem at_39_13 : am_at am_m39 13 = some (.putfield 308, 3, 59) := rfl
theorem at_39_16 : am_at am_m39 16 = some (.aload 0, 1, 0) := rfl
theorem at_39_17 : am_at am_m39 17 = some (.lload 2, 1, 0) := rfl
theorem at_39_18 : am_at am_m39 18 = some (.invokevirtual 37, 3, 113) := rfl
theorem at_39_21 : am_at am_m39 21 = some (.return_, 1, 0) := rfl
def g_39 (l1 : Int32) (S : amS) : amQ := az_bJ (g_36 ((S.1 24 8) - 1) S) fun x1 S2 => az_st (sI S2 24 8 l1) fun S3 => az_bV (g_37 x1 S3) fun S4 => some (.inl none, S4)
theorem t_39 {X : amX} {d e : Nat} {R : amS} {u : Nat → Int64} (hd : 2 ≤ d)  (l1 : Int32) (S : amS) : AW X d am_m39 (wc R u) e 0 [(0, .ref 24), (1, .int l1)] [] S (g_39 l1 S) := by
  unfold g_39
  refine aw_aload at_39_0 rfl ?_
  refine aw_aload at_39_1 rfl ?_
  refine aw_getf at_39_2 gf_308 ?_
  refine aw_ic 1 at_39_5 ic_1 ?_
  refine aw_isub at_39_6 ?_
  refine aw_cJ at_39_7 rfl (c_36 (by omega) _ _) (fun _ h => by cases h) rfl (fun x1 S2 => ?_)
  refine aw_lstore at_39_10 (by decide) rfl rfl ?_
  refine aw_aload at_39_11 rfl ?_
  refine aw_iload at_39_12 rfl ?_
  refine aw_putf at_39_13 (pf_308 _) (fun S3 => ?_)
  refine aw_aload at_39_16 rfl ?_
  refine aw_lload at_39_17 rfl ?_
  refine aw_cV at_39_18 rfl (c_37 (by omega) _ _) (fun _ h => by cases h) rfl (fun S4 => ?_)
  exact aw_rV at_39_21 rfl
theorem c_39 {X : amX} {d : Nat} {R : amS} {u : Nat → Int64} (hd : 3 ≤ d) (l1 : Int32) (S : amS) : CW X d 39 [.ref 24, .int l1] (wc R u) S (g_39 l1 S) := cw_up (by omega) (fun d' h => by
  subst h
  exact cw_of rfl (by decide) (Nat.le_of_ble_eq_true rfl) rfl (fun e => t_39 (by omega) l1 S))
/-! 61: ListDesk$Names.slotOf(I)I -/
theorem at_61_0 : am_at am_m61 0 = some (.aload 0, 1, 0) := rfl
theorem at_61_1 : am_at am_m61 1 = some (.getfield 401, 3, 15) := rfl
theorem at_61_4 : am_at am_m61 4 = some (.iload 1, 1, 0) := rfl
theorem at_61_5 : am_at am_m61 5 = some (.invokestatic 94, 3, 47) := rfl
theorem at_61_8 : am_at am_m61 8 = some (.ireturn, 1, 0) := rfl
def g_61 (l1 : Int32) (S : amS) : amQ := some (.inl (some (.int (az_rg 250 (S.1 7) l1))), S)
theorem t_61 {X : amX} {d e : Nat} {R : amS} {u : Nat → Int64} (hd : 1 ≤ d)  (l1 : Int32) (S : amS) : AW X d am_m61 (wc R u) e 0 [(0, .ref 5), (1, .int l1)] [] S (g_61 l1 S) := by
  unfold g_61
  refine aw_aload at_61_0 rfl ?_
  refine aw_getf at_61_1 gf_401 ?_
  refine aw_iload at_61_4 rfl ?_
  refine aw_pI at_61_5 rfl (cw_94 (by omega) (by decide) (fun e => ai_7) (fun e => al_7)) ?_
  exact aw_rI at_61_8 rfl
theorem c_61 {X : amX} {d : Nat} {R : amS} {u : Nat → Int64} (hd : 2 ≤ d) (l1 : Int32) (S : amS) : CW X d 61 [.ref 5, .int l1] (wc R u) S (g_61 l1 S) := cw_up (by omega) (fun d' h => by
  subst h
  exact cw_of rfl (by decide) (Nat.le_of_ble_eq_true rfl) rfl (fun e => t_61 (by omega) l1 S))
/-! 63: ListDesk$Names.isBoxed(I)Z -/
theorem at_63_0 : am_at am_m63 0 = some (.iload 1, 1, 0) := rfl
theorem at_63_1 : am_at am_m63 1 = some (.ifCond .lt 26, 3, 0) := rfl
theorem at_63_4 : am_at am_m63 4 = some (.iload 1, 1, 0) := rfl
theorem at_63_5 : am_at am_m63 5 = some (.aload 0, 1, 0) := rfl
theorem at_63_6 : am_at am_m63 6 = some (.getfield 403, 3, 21) := rfl
theorem at_63_9 : am_at am_m63 9 = some (.arraylength, 1, 0) := rfl
theorem at_63_10 : am_at am_m63 10 = some (.if_icmp .ge 26, 3, 0) := rfl
theorem at_63_13 : am_at am_m63 13 = some (.aload 0, 1, 0) := rfl
theorem at_63_14 : am_at am_m63 14 = some (.getfield 403, 3, 21) := rfl
theorem at_63_17 : am_at am_m63 17 = some (.iload 1, 1, 0) := rfl
theorem at_63_18 : am_at am_m63 18 = some (.baload, 1, 0) := rfl
theorem at_63_19 : am_at am_m63 19 = some (.ifCond .eq 26, 3, 0) := rfl
theorem at_63_22 : am_at am_m63 22 = some (.iconst 1, 1, 0) := rfl
theorem at_63_23 : am_at am_m63 23 = some (.goto 27, 3, 0) := rfl
theorem at_63_26 : am_at am_m63 26 = some (.iconst 0, 1, 0) := rfl
theorem at_63_27 : am_at am_m63 27 = some (.ireturn, 1, 0) := rfl
def g_63 (l1 : Int32) (S : amS) : amQ := if l1 < 0 then some (.inl (some (.int 0)), S) else if 250 ≤ l1 then some (.inl (some (.int 0)), S) else az_ck l1 250 (if (S.1 9 l1.toNatClampNeg) = 0 then some (.inl (some (.int 0)), S) else some (.inl (some (.int 1)), S))
theorem t_63 {X : amX} {d e : Nat} {R : amS} {u : Nat → Int64} (hd : 0 ≤ d)  (l1 : Int32) (S : amS) : AW X d am_m63 (wc R u) e 0 [(0, .ref 5), (1, .int l1)] [] S (g_63 l1 S) := by
  unfold g_63
  refine aw_iload at_63_0 rfl ?_
  refine aw_if_lt at_63_1 ?_ ?_
  · refine aw_ic 0 at_63_26 ic_0 ?_
    exact aw_rZ at_63_27 rfl (Or.inl rfl)
  · refine aw_iload at_63_4 rfl ?_
    refine aw_aload at_63_5 rfl ?_
    refine aw_getf at_63_6 gf_403 ?_
    refine aw_alen 250 at_63_9 al_9 (by decide) ?_
    refine aw_icmp_ge at_63_10 ?_ ?_
    · refine aw_ic 0 at_63_26 ic_0 ?_
      exact aw_rZ at_63_27 rfl (Or.inl rfl)
    · refine aw_aload at_63_13 rfl ?_
      refine aw_getf at_63_14 gf_403 ?_
      refine aw_iload at_63_17 rfl ?_
      refine aw_zald at_63_18 ar_9 ?_
      refine aw_if_eq at_63_19 ?_ ?_
      · refine aw_ic 0 at_63_26 ic_0 ?_
        exact aw_rZ at_63_27 rfl (Or.inl rfl)
      · refine aw_ic 1 at_63_22 ic_1 ?_
        refine aw_goto at_63_23 ?_
        exact aw_rZ at_63_27 rfl (Or.inr rfl)
theorem c_63 {X : amX} {d : Nat} {R : amS} {u : Nat → Int64} (hd : 1 ≤ d) (l1 : Int32) (S : amS) : CW X d 63 [.ref 5, .int l1] (wc R u) S (g_63 l1 S) := cw_up (by omega) (fun d' h => by
  subst h
  exact cw_of rfl (by decide) (Nat.le_of_ble_eq_true rfl) rfl (fun e => t_63 (by omega) l1 S))
/-! 43: ListDesk$Machine.bind(II)V -/
theorem at_43_0 : am_at am_m43 0 = some (.aload 0, 1, 0) := rfl
theorem at_43_1 : am_at am_m43 1 = some (.getfield 301, 3, 15) := rfl
theorem at_43_4 : am_at am_m43 4 = some (.iload 1, 1, 0) := rfl
theorem at_43_5 : am_at am_m43 5 = some (.invokevirtual 63, 3, 196) := rfl
theorem at_43_8 : am_at am_m43 8 = some (.ifCond .ne 12, 3, 0) := rfl
theorem at_43_11 : am_at am_m43 11 = some (.return_, 1, 0) := rfl
theorem at_43_12 : am_at am_m43 12 = some (.aload 0, 1, 0) := rfl
theorem at_43_13 : am_at am_m43 13 = some (.getfield 309, 3, 62) := rfl
theorem at_43_16 : am_at am_m43 16 = some (.aload 0, 1, 0) := rfl
theorem at_43_17 : am_at am_m43 17 = some (.getfield 301, 3, 15) := rfl
theorem at_43_20 : am_at am_m43 20 = some (.iload 1, 1, 0) := rfl
theorem at_43_21 : am_at am_m43 21 = some (.invokevirtual 61, 3, 202) := rfl
theorem at_43_24 : am_at am_m43 24 = some (.iadd, 1, 0) := rfl
theorem at_43_25 : am_at am_m43 25 = some (.istore 3, 1, 0) := rfl
theorem at_43_26 : am_at am_m43 26 = some (.aload 0, 1, 0) := rfl
theorem at_43_27 : am_at am_m43 27 = some (.getfield 303, 3, 26) := rfl
theorem at_43_30 : am_at am_m43 30 = some (.iconst 4, 1, 0) := rfl
theorem at_43_31 : am_at am_m43 31 = some (.aload 0, 1, 0) := rfl
theorem at_43_32 : am_at am_m43 32 = some (.iload 3, 1, 0) := rfl
theorem at_43_33 : am_at am_m43 33 = some (.invokevirtual 36, 3, 145) := rfl
theorem at_43_36 : am_at am_m43 36 = some (.jsr_w 4294967296, 3, 117) := rfl
theorem at_43_39 : am_at am_m43 39 = some (.invokevirtual 21, 3, 130) := rfl
theorem at_43_42 : am_at am_m43 42 = some (.lstore 4, 2, 0) := rfl
theorem at_43_44 : am_at am_m43 44 = some (.lload 4, 2, 0) := rfl
theorem at_43_46 : am_at am_m43 46 = some (.jsr_w 21474836480, 3, 170) := rfl
theorem at_43_49 : am_at am_m43 49 = some (.lcmp, 1, 0) := rfl
theorem at_43_50 : am_at am_m43 50 = some (.ifCond .ne 60, 3, 0) := rfl
theorem at_43_53 : am_at am_m43 53 = some (.aload 0, 1, 0) := rfl
theorem at_43_54 : am_at am_m43 54 = some (.iconst 5, 1, 0) := rfl
theorem at_43_55 : am_at am_m43 55 = some (.iload 2, 1, 0) := rfl
theorem at_43_56 : am_at am_m43 56 = some (.invokevirtual 35, 3, 172) := rfl
theorem at_43_59 : am_at am_m43 59 = some (.return_, 1, 0) := rfl
theorem at_43_60 : am_at am_m43 60 = some (.aload 0, 1, 0) := rfl
theorem at_43_61 : am_at am_m43 61 = some (.getfield 305, 3, 37) := rfl
theorem at_43_64 : am_at am_m43 64 = some (.iload 3, 1, 0) := rfl
theorem at_43_65 : am_at am_m43 65 = some (.lload 4, 2, 0) := rfl
theorem at_43_67 : am_at am_m43 67 = some (.invokestatic 97, 3, 166) := rfl
theorem at_43_70 : am_at am_m43 70 = some (.return_, 1, 0) := rfl
def g_43 (l1 : Int32) (l2 : Int32) (S : amS) : amQ := az_bI (g_63 l1 S) fun x1 S2 => if x1 = 0 then some (.inl none, S2) else az_bI (g_61 l1 S2) fun x3 S4 => az_st ((S2.1 24 9) + x3) fun x5 => az_bJ (g_36 x5 S4) fun x6 S7 => az_bJ (g_21 4 x6 4294967296 S7) fun x8 S9 => if (lg_cmp x8 21474836480) = 0 then az_bV (g_35 5 l2 S9) fun S11 => some (.inl none, S11) else az_st (sRJ S9 31 6405 x5 x8) fun S10 => some (.inl none, S10)
theorem t_43 {X : amX} {d e : Nat} {R : amS} {u : Nat → Int64} (hd : 2 ≤ d)  (l1 : Int32) (l2 : Int32) (S : amS) : AW X d am_m43 (wc R u) e 0 [(0, .ref 24), (1, .int l1), (2, .int l2)] [] S (g_43 l1 l2 S) := by
  unfold g_43
  refine aw_aload at_43_0 rfl ?_
  refine aw_getf at_43_1 gf_301 ?_
  refine aw_iload at_43_4 rfl ?_
  refine aw_cI at_43_5 rfl (c_63 (by omega) _ _) (fun _ h => by cases h) rfl (fun x1 S2 => ?_)
  refine aw_if_ne at_43_8 ?_ ?_
  · refine aw_aload at_43_12 rfl ?_
    refine aw_getf at_43_13 gf_309 ?_
    refine aw_aload at_43_16 rfl ?_
    refine aw_getf at_43_17 gf_301 ?_
    refine aw_iload at_43_20 rfl ?_
    refine aw_cI at_43_21 rfl (c_61 (by omega) _ _) (fun _ h => by cases h) rfl (fun x3 S4 => ?_)
    refine aw_iadd at_43_24 ?_
    refine aw_nameI (fun x5 => ?_)
    refine aw_istore at_43_25 (by decide) rfl rfl ?_
    refine aw_aload at_43_26 rfl ?_
    refine aw_getf at_43_27 gf_303 ?_
    refine aw_ic 4 at_43_30 ic_4 ?_
    refine aw_aload at_43_31 rfl ?_
    refine aw_iload at_43_32 rfl ?_
    refine aw_cJ at_43_33 rfl (c_36 (by omega) _ _) (fun _ h => by cases h) rfl (fun x6 S7 => ?_)
    refine aw_lc 4294967296 at_43_36 (by decide) ?_
    refine aw_cJ at_43_39 rfl (c_21 (by omega) _ _ _ _) (fun _ h => by cases h) rfl (fun x8 S9 => ?_)
    refine aw_lstore at_43_42 (by decide) rfl rfl ?_
    refine aw_lload at_43_44 rfl ?_
    refine aw_lc 21474836480 at_43_46 (by decide) ?_
    refine aw_lcmp at_43_49 ?_
    refine aw_if_ne at_43_50 ?_ ?_
    · refine aw_aload at_43_60 rfl ?_
      refine aw_getf at_43_61 gf_305 ?_
      refine aw_iload at_43_64 rfl ?_
      refine aw_lload at_43_65 rfl ?_
      refine aw_pV at_43_67 rfl (cw_97 (by omega) (by decide) (fun e => ar_31) (fun e => al_31) (fun e k x => as_31 k x)) (fun S10 => ?_)
      exact aw_rV at_43_70 rfl
    · refine aw_aload at_43_53 rfl ?_
      refine aw_ic 5 at_43_54 ic_5 ?_
      refine aw_iload at_43_55 rfl ?_
      refine aw_cV at_43_56 rfl (c_35 (by omega) _ _ _) (fun _ h => by cases h) rfl (fun S11 => ?_)
      exact aw_rV at_43_59 rfl
  · exact aw_rV at_43_11 rfl
theorem c_43 {X : amX} {d : Nat} {R : amS} {u : Nat → Int64} (hd : 3 ≤ d) (l1 : Int32) (l2 : Int32) (S : amS) : CW X d 43 [.ref 24, .int l1, .int l2] (wc R u) S (g_43 l1 l2 S) := cw_up (by omega) (fun d' h => by
  subst h
  exact cw_of rfl (by decide) (Nat.le_of_ble_eq_true rfl) rfl (fun e => t_43 (by omega) l1 l2 S))
/-! 45: ListDesk$Machine.replaceFrame(I)V -/
theorem at_45_0 : am_at am_m45 0 = some (.aload 0, 1, 0) := rfl
theorem at_45_1 : am_at am_m45 1 = some (.getfield 308, 3, 59) := rfl
theorem at_45_4 : am_at am_m45 4 = some (.iload 1, 1, 0) := rfl
theorem at_45_5 : am_at am_m45 5 = some (.isub, 1, 0) := rfl
theorem at_45_6 : am_at am_m45 6 = some (.iconst 1, 1, 0) := rfl
theorem at_45_7 : am_at am_m45 7 = some (.isub, 1, 0) := rfl
theorem at_45_8 : am_at am_m45 8 = some (.istore 2, 1, 0) := rfl
theorem at_45_9 : am_at am_m45 9 = some (.iconst 0, 1, 0) := rfl
theorem at_45_10 : am_at am_m45 10 = some (.istore 3, 1, 0) := rfl
theorem at_45_11 : am_at am_m45 11 = some (.iload 3, 1, 0) := rfl
theorem at_45_12 : am_at am_m45 12 = some (.iload 1, 1, 0) := rfl
theorem at_45_13 : am_at am_m45 13 = some (.if_icmp .gt 44, 3, 0) := rfl
theorem at_45_16 : am_at am_m45 16 = some (.aload 0, 1, 0) := rfl
theorem at_45_17 : am_at am_m45 17 = some (.getfield 305, 3, 37) := rfl
theorem at_45_20 : am_at am_m45 20 = some (.aload 0, 1, 0) := rfl
theorem at_45_21 : am_at am_m45 21 = some (.getfield 309, 3, 62) := rfl
theorem at_45_24 : am_at am_m45 24 = some (.iconst 1, 1, 0) := rfl
theorem at_45_25 : am_at am_m45 25 = some (.isub, 1, 0) := rfl
theorem at_45_26 : am_at am_m45 26 = some (.iload 3, 1, 0) := rfl
theorem at_45_27 : am_at am_m45 27 = some (.iadd, 1, 0) := rfl
theorem at_45_28 : am_at am_m45 28 = some (.aload 0, 1, 0) := rfl
theorem at_45_29 : am_at am_m45 29 = some (.iload 2, 1, 0) := rfl
theorem at_45_30 : am_at am_m45 30 = some (.iload 3, 1, 0) := rfl
theorem at_45_31 : am_at am_m45 31 = some (.iadd, 1, 0) := rfl
theorem at_45_32 : am_at am_m45 32 = some (.invokevirtual 36, 3, 145) := rfl
theorem at_45_35 : am_at am_m45 35 = some (.invokestatic 97, 3, 166) := rfl
theorem at_45_38 : am_at am_m45 38 = some (.iinc 3 1, 3, 0) := rfl
theorem at_45_41 : am_at am_m45 41 = some (.goto 11, 3, 0) := rfl
theorem at_45_44 : am_at am_m45 44 = some (.aload 0, 1, 0) := rfl
theorem at_45_45 : am_at am_m45 45 = some (.aload 0, 1, 0) := rfl
theorem at_45_46 : am_at am_m45 46 = some (.getfield 309, 3, 62) := rfl
theorem at_45_49 : am_at am_m45 49 = some (.iload 1, 1, 0) := rfl
theorem at_45_50 : am_at am_m45 50 = some (.iadd, 1, 0) := rfl
theorem at_45_51 : am_at am_m45 51 = some (.putfield 308, 3, 59) := rfl
theorem at_45_54 : am_at am_m45 54 = some (.return_, 1, 0) := rfl
def h_45_11 (n : Nat) (H11 : Int32 → Int32 → Int32 → amS → amQ) (l1 : Int32) (l2 : Int32) (l3 : Int32) (S : amS) : amQ := if l1 < l3 then az_st (sI S 24 8 ((S.1 24 9) + l1)) fun S1 => some (.inl none, S1) else az_bJ (g_36 (l2 + l3) S) fun x2 S3 => az_st (sRJ S3 31 6405 (((S.1 24 9) - 1) + l3) x2) fun S4 => H11 l1 l2 (l3 + 1) S4
def g_45_11 : Nat → Int32 → Int32 → Int32 → amS → amQ
  | 0 => fun _ _ _ _ => none
  | n + 1 => h_45_11 n (g_45_11 n)
theorem th_45_11 {X : amX} {d e : Nat} {R : amS} {u : Nat → Int64} {H11 : Int32 → Int32 → Int32 → amS → amQ} (hd : 2 ≤ d) (n : Nat) (hH11 : ∀ (l1 : Int32) (l2 : Int32) (l3 : Int32) (S : amS), AW X d am_m45 (wc R u) e 11 [(0, .ref 24), (1, .int l1), (2, .int l2), (3, .int l3)] [] S (H11 l1 l2 l3 S)) (l1 : Int32) (l2 : Int32) (l3 : Int32)  (S : amS) : AW X d am_m45 (wc R u) e 11 [(0, .ref 24), (1, .int l1), (2, .int l2), (3, .int l3)] [] S (h_45_11 n H11 l1 l2 l3 S) := by
  unfold h_45_11
  refine aw_iload at_45_11 rfl ?_
  refine aw_iload at_45_12 rfl ?_
  refine aw_icmp_gt at_45_13 ?_ ?_
  · refine aw_aload at_45_44 rfl ?_
    refine aw_aload at_45_45 rfl ?_
    refine aw_getf at_45_46 gf_309 ?_
    refine aw_iload at_45_49 rfl ?_
    refine aw_iadd at_45_50 ?_
    refine aw_putf at_45_51 (pf_308 _) (fun S1 => ?_)
    exact aw_rV at_45_54 rfl
  · refine aw_aload at_45_16 rfl ?_
    refine aw_getf at_45_17 gf_305 ?_
    refine aw_aload at_45_20 rfl ?_
    refine aw_getf at_45_21 gf_309 ?_
    refine aw_ic 1 at_45_24 ic_1 ?_
    refine aw_isub at_45_25 ?_
    refine aw_iload at_45_26 rfl ?_
    refine aw_iadd at_45_27 ?_
    refine aw_aload at_45_28 rfl ?_
    refine aw_iload at_45_29 rfl ?_
    refine aw_iload at_45_30 rfl ?_
    refine aw_iadd at_45_31 ?_
    refine aw_cJ at_45_32 rfl (c_36 (by omega) _ _) (fun _ h => by cases h) rfl (fun x2 S3 => ?_)
    refine aw_pV at_45_35 rfl (cw_97 (by omega) (by decide) (fun e => ar_31) (fun e => al_31) (fun e k x => as_31 k x)) (fun S4 => ?_)
    refine aw_iinc at_45_38 rfl (by decide) rfl ic_1 rfl ?_
    refine aw_goto at_45_41 ?_
    exact aw_sub (al_cons rfl (al_cons rfl (al_cons rfl (al_cons rfl al_nil)))) (hH11 l1 l2 (l3 + 1) S4)
theorem t_45_11 {X : amX} {d e : Nat} {R : amS} {u : Nat → Int64} (hd : 2 ≤ d) : ∀ (n : Nat)  (l1 : Int32) (l2 : Int32) (l3 : Int32) (S : amS), AW X d am_m45 (wc R u) e 11 [(0, .ref 24), (1, .int l1), (2, .int l2), (3, .int l3)] [] S (g_45_11 n l1 l2 l3 S)
  | 0, _, _, _, _ => aw_none
  | n + 1, l1, l2, l3, S => th_45_11 hd n (t_45_11 hd n) l1 l2 l3 S
def g_45 (n : Nat) (l1 : Int32) (S : amS) : amQ := az_st (((S.1 24 8) - l1) - 1) fun x1 => g_45_11 n l1 x1 0 S
theorem t_45 {X : amX} {d e : Nat} {R : amS} {u : Nat → Int64} (hd : 2 ≤ d) (n : Nat)  (l1 : Int32) (S : amS) : AW X d am_m45 (wc R u) e 0 [(0, .ref 24), (1, .int l1)] [] S (g_45 n l1 S) := by
  unfold g_45
  refine aw_aload at_45_0 rfl ?_
  refine aw_getf at_45_1 gf_308 ?_
  refine aw_iload at_45_4 rfl ?_
  refine aw_isub at_45_5 ?_
  refine aw_ic 1 at_45_6 ic_1 ?_
  refine aw_isub at_45_7 ?_
  refine aw_nameI (fun x1 => ?_)
  refine aw_istore at_45_8 (by decide) rfl rfl ?_
  refine aw_ic 0 at_45_9 ic_0 ?_
  refine aw_istore at_45_10 (by decide) rfl rfl ?_
  exact aw_sub (al_cons rfl (al_cons rfl (al_cons rfl (al_cons rfl al_nil)))) (t_45_11 (by omega) n l1 x1 0 S)
theorem c_45 {X : amX} {d : Nat} {R : amS} {u : Nat → Int64} (hd : 3 ≤ d) (n : Nat) (l1 : Int32) (S : amS) : CW X d 45 [.ref 24, .int l1] (wc R u) S (g_45 n l1 S) := cw_up (by omega) (fun d' h => by
  subst h
  exact cw_of rfl (by decide) (Nat.le_of_ble_eq_true rfl) rfl (fun e => t_45 (by omega) n l1 S))
/-! 46: ListDesk$Machine.addFrame(I)V -/
theorem at_46_0 : am_at am_m46 0 = some (.aload 0, 1, 0) := rfl
theorem at_46_1 : am_at am_m46 1 = some (.getfield 306, 3, 41) := rfl
theorem at_46_4 : am_at am_m46 4 = some (.aload 0, 1, 0) := rfl
theorem at_46_5 : am_at am_m46 5 = some (.getfield 311, 3, 68) := rfl
theorem at_46_8 : am_at am_m46 8 = some (.aload 0, 1, 0) := rfl
theorem at_46_9 : am_at am_m46 9 = some (.getfield 310, 3, 65) := rfl
theorem at_46_12 : am_at am_m46 12 = some (.invokestatic 95, 3, 227) := rfl
theorem at_46_15 : am_at am_m46 15 = some (.aload 0, 1, 0) := rfl
theorem at_46_16 : am_at am_m46 16 = some (.getfield 307, 3, 45) := rfl
theorem at_46_19 : am_at am_m46 19 = some (.aload 0, 1, 0) := rfl
theorem at_46_20 : am_at am_m46 20 = some (.getfield 311, 3, 68) := rfl
theorem at_46_23 : am_at am_m46 23 = some (.aload 0, 1, 0) := rfl
theorem at_46_24 : am_at am_m46 24 = some (.getfield 309, 3, 62) := rfl
theorem at_46_27 : am_at am_m46 27 = some (.invokestatic 95, 3, 227) := rfl
theorem at_46_30 : am_at am_m46 30 = some (.aload 0, 1, 0) := rfl
theorem at_46_31 : am_at am_m46 31 = some (.dup, 1, 0) := rfl
theorem at_46_32 : am_at am_m46 32 = some (.getfield 311, 3, 68) := rfl
theorem at_46_35 : am_at am_m46 35 = some (.iconst 1, 1, 0) := rfl
theorem at_46_36 : am_at am_m46 36 = some (.iadd, 1, 0) := rfl
theorem at_46_37 : am_at am_m46 37 = some (.putfield 311, 3, 68) := rfl
theorem at_46_40 : am_at am_m46 40 = some (.aload 0, 1, 0) := rfl
theorem at_46_41 : am_at am_m46 41 = some (.aload 0, 1, 0) := rfl
theorem at_46_42 : am_at am_m46 42 = some (.getfield 308, 3, 59) := rfl
theorem at_46_45 : am_at am_m46 45 = some (.iload 1, 1, 0) := rfl
theorem at_46_46 : am_at am_m46 46 = some (.isub, 1, 0) := rfl
theorem at_46_47 : am_at am_m46 47 = some (.putfield 309, 3, 62) := rfl
theorem at_46_50 : am_at am_m46 50 = some (.return_, 1, 0) := rfl
def g_46 (l1 : Int32) (S : amS) : amQ := az_st (sR S 32 60 (S.1 24 11) (S.1 24 10)) fun S1 => az_st (sR S1 33 60 (S1.1 24 11) (S1.1 24 9)) fun S2 => az_st (sI S2 24 11 ((S2.1 24 11) + 1)) fun S3 => az_st (sI S3 24 9 ((S3.1 24 8) - l1)) fun S4 => some (.inl none, S4)
theorem t_46 {X : amX} {d e : Nat} {R : amS} {u : Nat → Int64} (hd : 1 ≤ d)  (l1 : Int32) (S : amS) : AW X d am_m46 (wc R u) e 0 [(0, .ref 24), (1, .int l1)] [] S (g_46 l1 S) := by
  unfold g_46
  refine aw_aload at_46_0 rfl ?_
  refine aw_getf at_46_1 gf_306 ?_
  refine aw_aload at_46_4 rfl ?_
  refine aw_getf at_46_5 gf_311 ?_
  refine aw_aload at_46_8 rfl ?_
  refine aw_getf at_46_9 gf_310 ?_
  refine aw_pV at_46_12 rfl (cw_95 (by omega) (by decide) (fun e => ar_32) (fun e => al_32) (fun e k x => as_32 k x)) (fun S1 => ?_)
  refine aw_aload at_46_15 rfl ?_
  refine aw_getf at_46_16 gf_307 ?_
  refine aw_aload at_46_19 rfl ?_
  refine aw_getf at_46_20 gf_311 ?_
  refine aw_aload at_46_23 rfl ?_
  refine aw_getf at_46_24 gf_309 ?_
  refine aw_pV at_46_27 rfl (cw_95 (by omega) (by decide) (fun e => ar_33) (fun e => al_33) (fun e k x => as_33 k x)) (fun S2 => ?_)
  refine aw_aload at_46_30 rfl ?_
  refine aw_dupA at_46_31 ?_
  refine aw_getf at_46_32 gf_311 ?_
  refine aw_ic 1 at_46_35 ic_1 ?_
  refine aw_iadd at_46_36 ?_
  refine aw_putf at_46_37 (pf_311 _) (fun S3 => ?_)
  refine aw_aload at_46_40 rfl ?_
  refine aw_aload at_46_41 rfl ?_
  refine aw_getf at_46_42 gf_308 ?_
  refine aw_iload at_46_45 rfl ?_
  refine aw_isub at_46_46 ?_
  refine aw_putf at_46_47 (pf_309 _) (fun S4 => ?_)
  exact aw_rV at_46_50 rfl
theorem c_46 {X : amX} {d : Nat} {R : amS} {u : Nat → Int64} (hd : 2 ≤ d) (l1 : Int32) (S : amS) : CW X d 46 [.ref 24, .int l1] (wc R u) S (g_46 l1 S) := cw_up (by omega) (fun d' h => by
  subst h
  exact cw_of rfl (by decide) (Nat.le_of_ble_eq_true rfl) rfl (fun e => t_46 (by omega) l1 S))
/-! 44: ListDesk$Machine.call(IZI)V -/
theorem at_44_0 : am_at am_m44 0 = some (.aload 0, 1, 0) := rfl
theorem at_44_1 : am_at am_m44 1 = some (.aload 0, 1, 0) := rfl
theorem at_44_2 : am_at am_m44 2 = some (.getfield 308, 3, 59) := rfl
theorem at_44_5 : am_at am_m44 5 = some (.iload 1, 1, 0) := rfl
theorem at_44_6 : am_at am_m44 6 = some (.isub, 1, 0) := rfl
theorem at_44_7 : am_at am_m44 7 = some (.iconst 1, 1, 0) := rfl
theorem at_44_8 : am_at am_m44 8 = some (.isub, 1, 0) := rfl
theorem at_44_9 : am_at am_m44 9 = some (.invokevirtual 36, 3, 145) := rfl
theorem at_44_12 : am_at am_m44 12 = some (.lstore 4, 2, 0) := rfl
theorem at_44_14 : am_at am_m44 14 = some (.aload 0, 1, 0) := rfl
theorem at_44_15 : am_at am_m44 15 = some (.getfield 303, 3, 26) := rfl
theorem at_44_18 : am_at am_m44 18 = some (.lload 4, 2, 0) := rfl
theorem at_44_20 : am_at am_m44 20 = some (.invokevirtual 25, 3, 205) := rfl
theorem at_44_23 : am_at am_m44 23 = some (.istore 6, 2, 0) := rfl
theorem at_44_25 : am_at am_m44 25 = some (.lload 4, 2, 0) := rfl
theorem at_44_27 : am_at am_m44 27 = some (.invokestatic 112, 3, 209) := rfl
theorem at_44_30 : am_at am_m44 30 = some (.iconst 3, 1, 0) := rfl
theorem at_44_31 : am_at am_m44 31 = some (.if_icmp .ne 47, 3, 0) := rfl
theorem at_44_34 : am_at am_m44 34 = some (.aload 0, 1, 0) := rfl
theorem at_44_35 : am_at am_m44 35 = some (.getfield 302, 3, 19) := rfl
theorem at_44_38 : am_at am_m44 38 = some (.iload 6, 2, 0) := rfl
theorem at_44_40 : am_at am_m44 40 = some (.invokevirtual 15, 3, 212) := rfl
theorem at_44_43 : am_at am_m44 43 = some (.iload 1, 1, 0) := rfl
theorem at_44_44 : am_at am_m44 44 = some (.if_icmp .eq 54, 3, 0) := rfl
theorem at_44_47 : am_at am_m44 47 = some (.aload 0, 1, 0) := rfl
theorem at_44_48 : am_at am_m44 48 = some (.iconst 3, 1, 0) := rfl
theorem at_44_49 : am_at am_m44 49 = some (.iload 3, 1, 0) := rfl
theorem at_44_50 : am_at am_m44 50 = some (.invokevirtual 35, 3, 172) := rfl
theorem at_44_53 : am_at am_m44 53 = some (.return_, 1, 0) := rfl
theorem at_44_54 : am_at am_m44 54 = some (.iload 2, 1, 0) := rfl
theorem at_44_55 : am_at am_m44 55 = some (.ifCond .eq 66, 3, 0) := rfl
theorem at_44_58 : am_at am_m44 58 = some (.aload 0, 1, 0) := rfl
theorem at_44_59 : am_at am_m44 59 = some (.iload 1, 1, 0) := rfl
theorem at_44_60 : am_at am_m44 60 = some (.invokevirtual 45, 3, 215) := rfl
theorem at_44_63 : am_at am_m44 63 = some (.goto 90, 3, 0) := rfl
theorem at_44_66 : am_at am_m44 66 = some (.aload 0, 1, 0) := rfl
theorem at_44_67 : am_at am_m44 67 = some (.getfield 311, 3, 68) := rfl
theorem at_44_70 : am_at am_m44 70 = some (.iconst 60, 2, 1) := rfl
theorem at_44_72 : am_at am_m44 72 = some (.if_icmp .ge 83, 3, 0) := rfl
theorem at_44_75 : am_at am_m44 75 = some (.aload 0, 1, 0) := rfl
theorem at_44_76 : am_at am_m44 76 = some (.iload 1, 1, 0) := rfl
theorem at_44_77 : am_at am_m44 77 = some (.invokevirtual 46, 3, 218) := rfl
theorem at_44_80 : am_at am_m44 80 = some (.goto 90, 3, 0) := rfl
theorem at_44_83 : am_at am_m44 83 = some (.aload 0, 1, 0) := rfl
theorem at_44_84 : am_at am_m44 84 = some (.iconst 4, 1, 0) := rfl
theorem at_44_85 : am_at am_m44 85 = some (.iload 3, 1, 0) := rfl
theorem at_44_86 : am_at am_m44 86 = some (.invokevirtual 35, 3, 172) := rfl
theorem at_44_89 : am_at am_m44 89 = some (.return_, 1, 0) := rfl
theorem at_44_90 : am_at am_m44 90 = some (.aload 0, 1, 0) := rfl
theorem at_44_91 : am_at am_m44 91 = some (.aload 0, 1, 0) := rfl
theorem at_44_92 : am_at am_m44 92 = some (.getfield 302, 3, 19) := rfl
theorem at_44_95 : am_at am_m44 95 = some (.iload 6, 2, 0) := rfl
theorem at_44_97 : am_at am_m44 97 = some (.invokevirtual 13, 3, 221) := rfl
theorem at_44_100 : am_at am_m44 100 = some (.putfield 310, 3, 65) := rfl
theorem at_44_103 : am_at am_m44 103 = some (.aload 0, 1, 0) := rfl
theorem at_44_104 : am_at am_m44 104 = some (.getfield 302, 3, 19) := rfl
theorem at_44_107 : am_at am_m44 107 = some (.iload 6, 2, 0) := rfl
theorem at_44_109 : am_at am_m44 109 = some (.invokevirtual 16, 3, 224) := rfl
theorem at_44_112 : am_at am_m44 112 = some (.istore 7, 2, 0) := rfl
theorem at_44_114 : am_at am_m44 114 = some (.iconst 0, 1, 0) := rfl
theorem at_44_115 : am_at am_m44 115 = some (.istore 8, 2, 0) := rfl
theorem at_44_117 : am_at am_m44 117 = some (.iload 8, 2, 0) := rfl
theorem at_44_119 : am_at am_m44 119 = some (.iload 1, 1, 0) := rfl
theorem at_44_120 : am_at am_m44 120 = some (.if_icmp .ge 147, 3, 0) := rfl
theorem at_44_123 : am_at am_m44 123 = some (.aload 0, 1, 0) := rfl
theorem at_44_124 : am_at am_m44 124 = some (.getfield 313, 3, 48) := rfl
theorem at_44_127 : am_at am_m44 127 = some (.iconst 2, 1, 0) := rfl
theorem at_44_128 : am_at am_m44 128 = some (.if_icmp .ne 147, 3, 0) := rfl
theorem at_44_131 : am_at am_m44 131 = some (.aload 0, 1, 0) := rfl
theorem at_44_132 : am_at am_m44 132 = some (.iload 7, 2, 0) := rfl
theorem at_44_134 : am_at am_m44 134 = some (.iload 8, 2, 0) := rfl
theorem at_44_136 : am_at am_m44 136 = some (.iadd, 1, 0) := rfl
theorem at_44_137 : am_at am_m44 137 = some (.iload 3, 1, 0) := rfl
theorem at_44_138 : am_at am_m44 138 = some (.invokevirtual 43, 3, 142) := rfl
theorem at_44_141 : am_at am_m44 141 = some (.iinc 8 1, 3, 0) := rfl
theorem at_44_144 : am_at am_m44 144 = some (.goto 117, 3, 0) := rfl
theorem at_44_147 : am_at am_m44 147 = some (.return_, 1, 0) := rfl
def h_44_117 (n : Nat) (H117 : Int32 → Int32 → Int32 → Int32 → amS → amQ) (l1 : Int32) (l3 : Int32) (l7 : Int32) (l8 : Int32) (S : amS) : amQ := if l1 ≤ l8 then some (.inl none, S) else if (S.1 24 13) = 2 then az_bV (g_43 (l7 + l8) l3 S) fun S1 => H117 l1 l3 l7 (l8 + 1) S1 else some (.inl none, S)
def g_44_117 : Nat → Int32 → Int32 → Int32 → Int32 → amS → amQ
  | 0 => fun _ _ _ _ _ => none
  | n + 1 => h_44_117 n (g_44_117 n)
theorem th_44_117 {X : amX} {d e : Nat} {R : amS} {u : Nat → Int64} {H117 : Int32 → Int32 → Int32 → Int32 → amS → amQ} (hd : 3 ≤ d) (n : Nat) (hH117 : ∀ (l1 : Int32) (l3 : Int32) (l7 : Int32) (l8 : Int32) (S : amS), AW X d am_m44 (wc R u) e 117 [(0, .ref 24), (1, .int l1), (3, .int l3), (7, .int l7), (8, .int l8)] [] S (H117 l1 l3 l7 l8 S)) (l1 : Int32) (l3 : Int32) (l7 : Int32) (l8 : Int32)  (S : amS) : AW X d am_m44 (wc R u) e 117 [(0, .ref 24), (1, .int l1), (3, .int l3), (7, .int l7), (8, .int l8)] [] S (h_44_117 n H117 l1 l3 l7 l8 S) := by
  unfold h_44_117
  refine aw_iload at_44_117 rfl ?_
  refine aw_iload at_44_119 rfl ?_
  refine aw_icmp_ge at_44_120 ?_ ?_
  · exact aw_rV at_44_147 rfl
  · refine aw_aload at_44_123 rfl ?_
    refine aw_getf at_44_124 gf_313 ?_
    refine aw_ic 2 at_44_127 ic_2 ?_
    refine aw_icmp_ne at_44_128 ?_ ?_
    · exact aw_rV at_44_147 rfl
    · refine aw_aload at_44_131 rfl ?_
      refine aw_iload at_44_132 rfl ?_
      refine aw_iload at_44_134 rfl ?_
      refine aw_iadd at_44_136 ?_
      refine aw_iload at_44_137 rfl ?_
      refine aw_cV at_44_138 rfl (c_43 (by omega) _ _ _) (fun _ h => by cases h) rfl (fun S1 => ?_)
      refine aw_iinc at_44_141 rfl (by decide) rfl ic_1 rfl ?_
      refine aw_goto at_44_144 ?_
      exact aw_sub (al_cons rfl (al_cons rfl (al_cons rfl (al_cons rfl (al_cons rfl al_nil))))) (hH117 l1 l3 l7 (l8 + 1) S1)
theorem t_44_117 {X : amX} {d e : Nat} {R : amS} {u : Nat → Int64} (hd : 3 ≤ d) : ∀ (n : Nat)  (l1 : Int32) (l3 : Int32) (l7 : Int32) (l8 : Int32) (S : amS), AW X d am_m44 (wc R u) e 117 [(0, .ref 24), (1, .int l1), (3, .int l3), (7, .int l7), (8, .int l8)] [] S (g_44_117 n l1 l3 l7 l8 S)
  | 0, _, _, _, _, _ => aw_none
  | n + 1, l1, l3, l7, l8, S => th_44_117 hd n (t_44_117 hd n) l1 l3 l7 l8 S
def g_44_90 (n : Nat) (l1 : Int32) (l3 : Int32) (l6 : Int32) (S : amS) : amQ := az_bI (g_13 l6 S) fun x1 S2 => az_st (sI S2 24 10 x1) fun S3 => az_bI (g_16 l6 S3) fun x4 S5 => g_44_117 n l1 l3 x4 0 S5
theorem t_44_90 {X : amX} {d e : Nat} {R : amS} {u : Nat → Int64} (hd : 3 ≤ d) (n : Nat)  (l1 : Int32) (l3 : Int32) (l6 : Int32) (S : amS) : AW X d am_m44 (wc R u) e 90 [(0, .ref 24), (1, .int l1), (3, .int l3), (6, .int l6)] [] S (g_44_90 n l1 l3 l6 S) := by
  unfold g_44_90
  refine aw_aload at_44_90 rfl ?_
  refine aw_aload at_44_91 rfl ?_
  refine aw_getf at_44_92 gf_302 ?_
  refine aw_iload at_44_95 rfl ?_
  refine aw_cI at_44_97 rfl (c_13 (by omega) _ _) (fun _ h => by cases h) rfl (fun x1 S2 => ?_)
  refine aw_putf at_44_100 (pf_310 _) (fun S3 => ?_)
  refine aw_aload at_44_103 rfl ?_
  refine aw_getf at_44_104 gf_302 ?_
  refine aw_iload at_44_107 rfl ?_
  refine aw_cI at_44_109 rfl (c_16 (by omega) _ _) (fun _ h => by cases h) rfl (fun x4 S5 => ?_)
  refine aw_istore at_44_112 (by decide) rfl rfl ?_
  refine aw_ic 0 at_44_114 ic_0 ?_
  refine aw_istore at_44_115 (by decide) rfl rfl ?_
  exact aw_sub (al_cons rfl (al_cons rfl (al_cons rfl (al_cons rfl (al_cons rfl al_nil))))) (t_44_117 (by omega) n l1 l3 x4 0 S5)
def g_44_47 (n : Nat) (l3 : Int32) (S : amS) : amQ := az_bV (g_35 3 l3 S) fun S1 => some (.inl none, S1)
theorem t_44_47 {X : amX} {d e : Nat} {R : amS} {u : Nat → Int64} (hd : 3 ≤ d) (n : Nat)  (l3 : Int32) (S : amS) : AW X d am_m44 (wc R u) e 47 [(0, .ref 24), (3, .int l3)] [] S (g_44_47 n l3 S) := by
  unfold g_44_47
  refine aw_aload at_44_47 rfl ?_
  refine aw_ic 3 at_44_48 ic_3 ?_
  refine aw_iload at_44_49 rfl ?_
  refine aw_cV at_44_50 rfl (c_35 (by omega) _ _ _) (fun _ h => by cases h) rfl (fun S1 => ?_)
  exact aw_rV at_44_53 rfl
def g_44 (n : Nat) (l1 : Int32) (l2 : Int32) (l3 : Int32) (S : amS) : amQ := az_bJ (g_36 (((S.1 24 8) - l1) - 1) S) fun x1 S2 => az_bI (g_25 x1 S2) fun x3 S4 => az_bI (g_112 x1 S4) fun x5 S6 => if x5 = 3 then az_bI (g_15 x3 S6) fun x7 S8 => if x7 = l1 then if l2 = 0 then if 60 ≤ (S8.1 24 11) then az_bV (g_35 4 l3 S8) fun S9 => some (.inl none, S9) else az_bV (g_46 l1 S8) fun S10 => g_44_90 n l1 l3 x3 S10 else az_bV (g_45 n l1 S8) fun S11 => g_44_90 n l1 l3 x3 S11 else g_44_47 n l3 S8 else g_44_47 n l3 S6
theorem t_44 {X : amX} {d e : Nat} {R : amS} {u : Nat → Int64} (hd : 3 ≤ d) (n : Nat)  (l1 : Int32) (l2 : Int32) (l3 : Int32) (S : amS) : AW X d am_m44 (wc R u) e 0 [(0, .ref 24), (1, .int l1), (2, .int l2), (3, .int l3)] [] S (g_44 n l1 l2 l3 S) := by
  unfold g_44
  refine aw_aload at_44_0 rfl ?_
  refine aw_aload at_44_1 rfl ?_
  refine aw_getf at_44_2 gf_308 ?_
  refine aw_iload at_44_5 rfl ?_
  refine aw_isub at_44_6 ?_
  refine aw_ic 1 at_44_7 ic_1 ?_
  refine aw_isub at_44_8 ?_
  refine aw_cJ at_44_9 rfl (c_36 (by omega) _ _) (fun _ h => by cases h) rfl (fun x1 S2 => ?_)
  refine aw_lstore at_44_12 (by decide) rfl rfl ?_
  refine aw_aload at_44_14 rfl ?_
  refine aw_getf at_44_15 gf_303 ?_
  refine aw_lload at_44_18 rfl ?_
  refine aw_cI at_44_20 rfl (c_25 (by omega) _ _) (fun _ h => by cases h) rfl (fun x3 S4 => ?_)
  refine aw_istore at_44_23 (by decide) rfl rfl ?_
  refine aw_lload at_44_25 rfl ?_
  refine aw_cI at_44_27 rfl (c_112 (by omega) _ _) (fun _ h => by cases h) rfl (fun x5 S6 => ?_)
  refine aw_ic 3 at_44_30 ic_3 ?_
  refine aw_icmp_ne at_44_31 ?_ ?_
  · exact aw_sub (al_cons rfl (al_cons rfl al_nil)) (t_44_47 (by omega) n l3 S6)
  · refine aw_aload at_44_34 rfl ?_
    refine aw_getf at_44_35 gf_302 ?_
    refine aw_iload at_44_38 rfl ?_
    refine aw_cI at_44_40 rfl (c_15 (by omega) _ _) (fun _ h => by cases h) rfl (fun x7 S8 => ?_)
    refine aw_iload at_44_43 rfl ?_
    refine aw_icmp_eq at_44_44 ?_ ?_
    · refine aw_iload at_44_54 rfl ?_
      refine aw_if_eq at_44_55 ?_ ?_
      · refine aw_aload at_44_66 rfl ?_
        refine aw_getf at_44_67 gf_311 ?_
        refine aw_ic 60 at_44_70 ic_60 ?_
        refine aw_icmp_ge at_44_72 ?_ ?_
        · refine aw_aload at_44_83 rfl ?_
          refine aw_ic 4 at_44_84 ic_4 ?_
          refine aw_iload at_44_85 rfl ?_
          refine aw_cV at_44_86 rfl (c_35 (by omega) _ _ _) (fun _ h => by cases h) rfl (fun S9 => ?_)
          exact aw_rV at_44_89 rfl
        · refine aw_aload at_44_75 rfl ?_
          refine aw_iload at_44_76 rfl ?_
          refine aw_cV at_44_77 rfl (c_46 (by omega) _ _) (fun _ h => by cases h) rfl (fun S10 => ?_)
          refine aw_goto at_44_80 ?_
          exact aw_sub (al_cons rfl (al_cons rfl (al_cons rfl (al_cons rfl al_nil)))) (t_44_90 (by omega) n l1 l3 x3 S10)
      · refine aw_aload at_44_58 rfl ?_
        refine aw_iload at_44_59 rfl ?_
        refine aw_cV at_44_60 rfl (c_45 (by omega) n _ _) (fun _ h => by cases h) rfl (fun S11 => ?_)
        refine aw_goto at_44_63 ?_
        exact aw_sub (al_cons rfl (al_cons rfl (al_cons rfl (al_cons rfl al_nil)))) (t_44_90 (by omega) n l1 l3 x3 S11)
    · exact aw_sub (al_cons rfl (al_cons rfl al_nil)) (t_44_47 (by omega) n l3 S8)
theorem c_44 {X : amX} {d : Nat} {R : amS} {u : Nat → Int64} (hd : 4 ≤ d) (n : Nat) (l1 : Int32) (l2 : Int32) (l3 : Int32) (S : amS) : CW X d 44 [.ref 24, .int l1, .int l2, .int l3] (wc R u) S (g_44 n l1 l2 l3 S) := cw_up (by omega) (fun d' h => by
  subst h
  exact cw_of rfl (by decide) (Nat.le_of_ble_eq_true rfl) rfl (fun e => t_44 (by omega) n l1 l2 l3 S))
/-! 47: ListDesk$Machine.goBack()V -/
theorem at_47_0 : am_at am_m47 0 = some (.aload 0, 1, 0) := rfl
theorem at_47_1 : am_at am_m47 1 = some (.aload 0, 1, 0) := rfl
theorem at_47_2 : am_at am_m47 2 = some (.getfield 309, 3, 62) := rfl
theorem at_47_5 : am_at am_m47 5 = some (.iconst 1, 1, 0) := rfl
theorem at_47_6 : am_at am_m47 6 = some (.isub, 1, 0) := rfl
theorem at_47_7 : am_at am_m47 7 = some (.invokevirtual 39, 3, 152) := rfl
theorem at_47_10 : am_at am_m47 10 = some (.aload 0, 1, 0) := rfl
theorem at_47_11 : am_at am_m47 11 = some (.dup, 1, 0) := rfl
theorem at_47_12 : am_at am_m47 12 = some (.getfield 311, 3, 68) := rfl
theorem at_47_15 : am_at am_m47 15 = some (.iconst 1, 1, 0) := rfl
theorem at_47_16 : am_at am_m47 16 = some (.isub, 1, 0) := rfl
theorem at_47_17 : am_at am_m47 17 = some (.putfield 311, 3, 68) := rfl
theorem at_47_20 : am_at am_m47 20 = some (.aload 0, 1, 0) := rfl
theorem at_47_21 : am_at am_m47 21 = some (.aload 0, 1, 0) := rfl
theorem at_47_22 : am_at am_m47 22 = some (.getfield 306, 3, 41) := rfl
theorem at_47_25 : am_at am_m47 25 = some (.aload 0, 1, 0) := rfl
theorem at_47_26 : am_at am_m47 26 = some (.getfield 311, 3, 68) := rfl
theorem at_47_29 : am_at am_m47 29 = some (.invokestatic 94, 3, 84) := rfl
theorem at_47_32 : am_at am_m47 32 = some (.putfield 310, 3, 65) := rfl
theorem at_47_35 : am_at am_m47 35 = some (.aload 0, 1, 0) := rfl
theorem at_47_36 : am_at am_m47 36 = some (.aload 0, 1, 0) := rfl
theorem at_47_37 : am_at am_m47 37 = some (.getfield 307, 3, 45) := rfl
theorem at_47_40 : am_at am_m47 40 = some (.aload 0, 1, 0) := rfl
theorem at_47_41 : am_at am_m47 41 = some (.getfield 311, 3, 68) := rfl
theorem at_47_44 : am_at am_m47 44 = some (.invokestatic 94, 3, 84) := rfl
theorem at_47_47 : am_at am_m47 47 = some (.putfield 309, 3, 62) := rfl
theorem at_47_50 : am_at am_m47 50 = some (.return_, 1, 0) := rfl
def g_47 (S : amS) : amQ := az_bV (g_39 ((S.1 24 9) - 1) S) fun S1 => az_st (sI S1 24 11 ((S1.1 24 11) - 1)) fun S2 => az_st (sI S2 24 10 (az_rg 60 (S2.1 32) (S2.1 24 11))) fun S3 => az_st (sI S3 24 9 (az_rg 60 (S3.1 33) (S3.1 24 11))) fun S4 => some (.inl none, S4)
theorem t_47 {X : amX} {d e : Nat} {R : amS} {u : Nat → Int64} (hd : 3 ≤ d)  (S : amS) : AW X d am_m47 (wc R u) e 0 [(0, .ref 24)] [] S (g_47 S) := by
  unfold g_47
  refine aw_aload at_47_0 rfl ?_
  refine aw_aload at_47_1 rfl ?_
  refine aw_getf at_47_2 gf_309 ?_
  refine aw_ic 1 at_47_5 ic_1 ?_
  refine aw_isub at_47_6 ?_
  refine aw_cV at_47_7 rfl (c_39 (by omega) _ _) (fun _ h => by cases h) rfl (fun S1 => ?_)
  refine aw_aload at_47_10 rfl ?_
  refine aw_dupA at_47_11 ?_
  refine aw_getf at_47_12 gf_311 ?_
  refine aw_ic 1 at_47_15 ic_1 ?_
  refine aw_isub at_47_16 ?_
  refine aw_putf at_47_17 (pf_311 _) (fun S2 => ?_)
  refine aw_aload at_47_20 rfl ?_
  refine aw_aload at_47_21 rfl ?_
  refine aw_getf at_47_22 gf_306 ?_
  refine aw_aload at_47_25 rfl ?_
  refine aw_getf at_47_26 gf_311 ?_
  refine aw_pI at_47_29 rfl (cw_94 (by omega) (by decide) (fun e => ai_32) (fun e => al_32)) ?_
  refine aw_putf at_47_32 (pf_310 _) (fun S3 => ?_)
  refine aw_aload at_47_35 rfl ?_
  refine aw_aload at_47_36 rfl ?_
  refine aw_getf at_47_37 gf_307 ?_
  refine aw_aload at_47_40 rfl ?_
  refine aw_getf at_47_41 gf_311 ?_
  refine aw_pI at_47_44 rfl (cw_94 (by omega) (by decide) (fun e => ai_33) (fun e => al_33)) ?_
  refine aw_putf at_47_47 (pf_309 _) (fun S4 => ?_)
  exact aw_rV at_47_50 rfl
theorem c_47 {X : amX} {d : Nat} {R : amS} {u : Nat → Int64} (hd : 4 ≤ d) (S : amS) : CW X d 47 [.ref 24] (wc R u) S (g_47 S) := cw_up (by omega) (fun d' h => by
  subst h
  exact cw_of rfl (by decide) (Nat.le_of_ble_eq_true rfl) rfl (fun e => t_47 (by omega) S))
