/-! 76: ListDesk$Reader.variableValue()V -/
theorem at_76_0 : am_at am_m76 0 = some (.aload 0, 1, 0) := rfl
theorem at_76_1 : am_at am_m76 1 = some (.getfield 600, 3, 9) := rfl
theorem at_76_4 : am_at am_m76 4 = some (.invokevirtual 103, 3, 75) := rfl
theorem at_76_7 : am_at am_m76 7 = some (.istore 1, 1, 0) := rfl
theorem at_76_8 : am_at am_m76 8 = some (.aload 0, 1, 0) := rfl
theorem at_76_9 : am_at am_m76 9 = some (.invokevirtual 77, 3, 122) := rfl
theorem at_76_12 : am_at am_m76 12 = some (.istore 2, 1, 0) := rfl
theorem at_76_13 : am_at am_m76 13 = some (.aload 0, 1, 0) := rfl
theorem at_76_14 : am_at am_m76 14 = some (.getfield 603, 3, 23) := rfl
theorem at_76_17 : am_at am_m76 17 = some (.iload 2, 1, 0) := rfl
theorem at_76_18 : am_at am_m76 18 = some (.aload 0, 1, 0) := rfl
theorem at_76_19 : am_at am_m76 19 = some (.getfield 602, 3, 19) := rfl
theorem at_76_22 : am_at am_m76 22 = some (.iload 2, 1, 0) := rfl
theorem at_76_23 : am_at am_m76 23 = some (.invokevirtual 62, 3, 125) := rfl
theorem at_76_26 : am_at am_m76 26 = some (.aload 0, 1, 0) := rfl
theorem at_76_27 : am_at am_m76 27 = some (.getfield 602, 3, 19) := rfl
theorem at_76_30 : am_at am_m76 30 = some (.iload 2, 1, 0) := rfl
theorem at_76_31 : am_at am_m76 31 = some (.invokevirtual 61, 3, 128) := rfl
theorem at_76_34 : am_at am_m76 34 = some (.invokevirtual 11, 3, 131) := rfl
theorem at_76_37 : am_at am_m76 37 = some (.istore 3, 1, 0) := rfl
theorem at_76_38 : am_at am_m76 38 = some (.aload 0, 1, 0) := rfl
theorem at_76_39 : am_at am_m76 39 = some (.iconst 4, 1, 0) := rfl
theorem at_76_40 : am_at am_m76 40 = some (.iload 3, 1, 0) := rfl
theorem at_76_41 : am_at am_m76 41 = some (.iload 1, 1, 0) := rfl
theorem at_76_42 : am_at am_m76 42 = some (.invokevirtual 74, 3, 92) := rfl
theorem at_76_45 : am_at am_m76 45 = some (.return_, 1, 0) := rfl
def g_76 (n : Nat) (S : amS) : amQ := az_bI (g_103 n S) fun x1 S2 => az_bI (g_77 n S2) fun x3 S4 => az_bI (g_62 x3 S4) fun x5 S6 => az_bI (g_61 x3 S6) fun x7 S8 => az_bI (g_11 n x3 x5 x7 S8) fun x9 S10 => az_bV (g_74 4 x9 x1 S10) fun S11 => some (.inl none, S11)
theorem t_76 {X : amX} {d e : Nat} {R : amS} {u : Nat → Int64} (hd : 3 ≤ d) (n : Nat)  (S : amS) : AW X d am_m76 (wc R u) e 0 [(0, .ref 23)] [] S (g_76 n S) := by
  unfold g_76
  refine aw_aload at_76_0 rfl ?_
  refine aw_getf at_76_1 gf_600 ?_
  refine aw_cI at_76_4 rfl (c_103 (by omega) n _) (fun _ h => by cases h) rfl (fun x1 S2 => ?_)
  refine aw_istore at_76_7 (by decide) rfl rfl ?_
  refine aw_aload at_76_8 rfl ?_
  refine aw_cI at_76_9 rfl (c_77 (by omega) n _) (fun _ h => by cases h) rfl (fun x3 S4 => ?_)
  refine aw_istore at_76_12 (by decide) rfl rfl ?_
  refine aw_aload at_76_13 rfl ?_
  refine aw_getf at_76_14 gf_603 ?_
  refine aw_iload at_76_17 rfl ?_
  refine aw_aload at_76_18 rfl ?_
  refine aw_getf at_76_19 gf_602 ?_
  refine aw_iload at_76_22 rfl ?_
  refine aw_cI at_76_23 rfl (c_62 (by omega) _ _) (fun _ h => by cases h) rfl (fun x5 S6 => ?_)
  refine aw_aload at_76_26 rfl ?_
  refine aw_getf at_76_27 gf_602 ?_
  refine aw_iload at_76_30 rfl ?_
  refine aw_cI at_76_31 rfl (c_61 (by omega) _ _) (fun _ h => by cases h) rfl (fun x7 S8 => ?_)
  refine aw_cI at_76_34 rfl (c_11 (by omega) n _ _ _ _) (fun _ h => by cases h) rfl (fun x9 S10 => ?_)
  refine aw_istore at_76_37 (by decide) rfl rfl ?_
  refine aw_aload at_76_38 rfl ?_
  refine aw_ic 4 at_76_39 ic_4 ?_
  refine aw_iload at_76_40 rfl ?_
  refine aw_iload at_76_41 rfl ?_
  refine aw_cV at_76_42 rfl (c_74 (by omega) _ _ _ _) (fun _ h => by cases h) rfl (fun S11 => ?_)
  exact aw_rV at_76_45 rfl
theorem c_76 {X : amX} {d : Nat} {R : amS} {u : Nat → Int64} (hd : 4 ≤ d) (n : Nat) (S : amS) : CW X d 76 [.ref 23] (wc R u) S (g_76 n S) := cw_up (by omega) (fun d' h => by
  subst h
  exact cw_of rfl (by decide) (Nat.le_of_ble_eq_true rfl) rfl (fun e => t_76 (by omega) n S))
/-! 107: ListDesk$Tape.isAtWord(Ljava/lang/String;)Z -/
theorem at_107_0 : am_at am_m107 0 = some (.iconst 0, 1, 0) := rfl
theorem at_107_1 : am_at am_m107 1 = some (.istore 2, 1, 0) := rfl
theorem at_107_2 : am_at am_m107 2 = some (.iload 2, 1, 0) := rfl
theorem at_107_3 : am_at am_m107 3 = some (.aload 1, 1, 0) := rfl
theorem at_107_4 : am_at am_m107 4 = some (.invokevirtual 901, 3, 46) := rfl
theorem at_107_7 : am_at am_m107 7 = some (.if_icmp .ge 36, 3, 0) := rfl
theorem at_107_10 : am_at am_m107 10 = some (.aload 0, 1, 0) := rfl
theorem at_107_11 : am_at am_m107 11 = some (.aload 0, 1, 0) := rfl
theorem at_107_12 : am_at am_m107 12 = some (.getfield 703, 3, 28) := rfl
theorem at_107_15 : am_at am_m107 15 = some (.iload 2, 1, 0) := rfl
theorem at_107_16 : am_at am_m107 16 = some (.iadd, 1, 0) := rfl
theorem at_107_17 : am_at am_m107 17 = some (.invokevirtual 102, 3, 31) := rfl
theorem at_107_20 : am_at am_m107 20 = some (.aload 1, 1, 0) := rfl
theorem at_107_21 : am_at am_m107 21 = some (.iload 2, 1, 0) := rfl
theorem at_107_22 : am_at am_m107 22 = some (.invokevirtual 902, 3, 50) := rfl
theorem at_107_25 : am_at am_m107 25 = some (.if_icmp .eq 30, 3, 0) := rfl
theorem at_107_28 : am_at am_m107 28 = some (.iconst 0, 1, 0) := rfl
theorem at_107_29 : am_at am_m107 29 = some (.ireturn, 1, 0) := rfl
theorem at_107_30 : am_at am_m107 30 = some (.iinc 2 1, 3, 0) := rfl
theorem at_107_33 : am_at am_m107 33 = some (.goto 2, 3, 0) := rfl
theorem at_107_36 : am_at am_m107 36 = some (.aload 0, 1, 0) := rfl
theorem at_107_37 : am_at am_m107 37 = some (.aload 0, 1, 0) := rfl
theorem at_107_38 : am_at am_m107 38 = some (.getfield 703, 3, 28) := rfl
theorem at_107_41 : am_at am_m107 41 = some (.aload 1, 1, 0) := rfl
theorem at_107_42 : am_at am_m107 42 = some (.invokevirtual 901, 3, 46) := rfl
theorem at_107_45 : am_at am_m107 45 = some (.iadd, 1, 0) := rfl
theorem at_107_46 : am_at am_m107 46 = some (.invokevirtual 102, 3, 31) := rfl
theorem at_107_49 : am_at am_m107 49 = some (.invokestatic 109, 3, 54) := rfl
theorem at_107_52 : am_at am_m107 52 = some (.ireturn, 1, 0) := rfl
def h_107_2 (n : Nat) (H2 : Nat → Int32 → amS → amQ) (l1 : Nat) (l2 : Int32) (S : amS) : amQ := az_if (1100 ≤ l1 ∧ l1 < 1120) (if (Int32.ofNat (am_tx.getD (l1 - 1100) []).length) ≤ l2 then az_if (1100 ≤ l1 ∧ l1 < 1120) (az_bI (g_102 ((S.1 21 3) + (Int32.ofNat (am_tx.getD (l1 - 1100) []).length)) S) fun x1 S2 => az_bI (g_109 x1 S2) fun x3 S4 => az_if (x3 = 0 ∨ x3 = 1) (some (.inl (some (.int x3)), S4))) else az_bI (g_102 ((S.1 21 3) + l2) S) fun x5 S6 => az_if (1100 ≤ l1 ∧ l1 < 1120) (az_ck l2 (am_tx.getD (l1 - 1100) []).length (if x5 = ((am_tx.getD (l1 - 1100) []).getD l2.toNatClampNeg 0) then H2 l1 (l2 + 1) S6 else some (.inl (some (.int 0)), S6))))
def g_107_2 : Nat → Nat → Int32 → amS → amQ
  | 0 => fun _ _ _ => none
  | n + 1 => h_107_2 n (g_107_2 n)
theorem th_107_2 {X : amX} {d e : Nat} {R : amS} {u : Nat → Int64} {H2 : Nat → Int32 → amS → amQ} (hd : 1 ≤ d) (n : Nat) (hH2 : ∀ (l1 : Nat) (l2 : Int32) (S : amS), AW X d am_m107 (wc R u) e 2 [(0, .ref 21), (1, .ref l1), (2, .int l2)] [] S (H2 l1 l2 S)) (l1 : Nat) (l2 : Int32)  (S : amS) : AW X d am_m107 (wc R u) e 2 [(0, .ref 21), (1, .ref l1), (2, .int l2)] [] S (h_107_2 n H2 l1 l2 S) := by
  unfold h_107_2
  refine aw_iload at_107_2 rfl ?_
  refine aw_aload at_107_3 rfl ?_
  refine aw_slen at_107_4 (Nat.le_of_ble_eq_true rfl) ?_
  refine aw_icmp_ge at_107_7 ?_ ?_
  · refine aw_aload at_107_36 rfl ?_
    refine aw_aload at_107_37 rfl ?_
    refine aw_getf at_107_38 gf_703 ?_
    refine aw_aload at_107_41 rfl ?_
    refine aw_slen at_107_42 (Nat.le_of_ble_eq_true rfl) ?_
    refine aw_iadd at_107_45 ?_
    refine aw_cI at_107_46 rfl (c_102 (by omega) _ _) (fun _ h => by cases h) rfl (fun x1 S2 => ?_)
    refine aw_cI at_107_49 rfl (c_109 (by omega) _ _) (fun _ h => by cases h) rfl (fun x3 S4 => ?_)
    exact aw_rZ2 at_107_52 rfl
  · refine aw_aload at_107_10 rfl ?_
    refine aw_aload at_107_11 rfl ?_
    refine aw_getf at_107_12 gf_703 ?_
    refine aw_iload at_107_15 rfl ?_
    refine aw_iadd at_107_16 ?_
    refine aw_cI at_107_17 rfl (c_102 (by omega) _ _) (fun _ h => by cases h) rfl (fun x5 S6 => ?_)
    refine aw_aload at_107_20 rfl ?_
    refine aw_iload at_107_21 rfl ?_
    refine aw_chr at_107_22 (Nat.le_of_ble_eq_true rfl) ?_
    refine aw_icmp_eq at_107_25 ?_ ?_
    · refine aw_iinc at_107_30 rfl (by decide) rfl ic_1 rfl ?_
      refine aw_goto at_107_33 ?_
      exact aw_sub (al_cons rfl (al_cons rfl (al_cons rfl al_nil))) (hH2 l1 (l2 + 1) S6)
    · refine aw_ic 0 at_107_28 ic_0 ?_
      exact aw_rZ at_107_29 rfl (Or.inl rfl)
theorem t_107_2 {X : amX} {d e : Nat} {R : amS} {u : Nat → Int64} (hd : 1 ≤ d) : ∀ (n : Nat)  (l1 : Nat) (l2 : Int32) (S : amS), AW X d am_m107 (wc R u) e 2 [(0, .ref 21), (1, .ref l1), (2, .int l2)] [] S (g_107_2 n l1 l2 S)
  | 0, _, _, _ => aw_none
  | n + 1, l1, l2, S => th_107_2 hd n (t_107_2 hd n) l1 l2 S
def g_107 (n : Nat) (l1 : Nat) (S : amS) : amQ := g_107_2 n l1 0 S
theorem t_107 {X : amX} {d e : Nat} {R : amS} {u : Nat → Int64} (hd : 1 ≤ d) (n : Nat)  (l1 : Nat) (S : amS) : AW X d am_m107 (wc R u) e 0 [(0, .ref 21), (1, .ref l1)] [] S (g_107 n l1 S) := by
  unfold g_107
  refine aw_ic 0 at_107_0 ic_0 ?_
  refine aw_istore at_107_1 (by decide) rfl rfl ?_
  exact aw_sub (al_cons rfl (al_cons rfl (al_cons rfl al_nil))) (t_107_2 (by omega) n l1 0 S)
theorem c_107 {X : amX} {d : Nat} {R : amS} {u : Nat → Int64} (hd : 2 ≤ d) (n : Nat) (l1 : Nat) (S : amS) : CW X d 107 [.ref 21, .ref l1] (wc R u) S (g_107 n l1 S) := cw_up (by omega) (fun d' h => by
  subst h
  exact cw_of rfl (by decide) (Nat.le_of_ble_eq_true rfl) rfl (fun e => t_107 (by omega) n l1 S))
/-! 79: ListDesk$Reader.headWord()LListDesk$Word; -/
theorem at_79_0 : am_at am_m79 0 = some (.iconst 0, 1, 0) := rfl
theorem at_79_1 : am_at am_m79 1 = some (.istore 1, 1, 0) := rfl
theorem at_79_2 : am_at am_m79 2 = some (.iload 1, 1, 0) := rfl
theorem at_79_3 : am_at am_m79 3 = some (.getstatic 0, 3, 165) := rfl
theorem at_79_6 : am_at am_m79 6 = some (.arraylength, 1, 0) := rfl
theorem at_79_7 : am_at am_m79 7 = some (.if_icmp .ge 40, 3, 0) := rfl
theorem at_79_10 : am_at am_m79 10 = some (.aload 0, 1, 0) := rfl
theorem at_79_11 : am_at am_m79 11 = some (.getfield 600, 3, 9) := rfl
theorem at_79_14 : am_at am_m79 14 = some (.getstatic 0, 3, 165) := rfl
theorem at_79_17 : am_at am_m79 17 = some (.iload 1, 1, 0) := rfl
theorem at_79_18 : am_at am_m79 18 = some (.aaload, 1, 0) := rfl
theorem at_79_19 : am_at am_m79 19 = some (.getfield 50000, 3, 147) := rfl
theorem at_79_22 : am_at am_m79 22 = some (.invokevirtual 107, 3, 98) := rfl
theorem at_79_25 : am_at am_m79 25 = some (.ifCond .eq 34, 3, 0) := rfl
theorem at_79_28 : am_at am_m79 28 = some (.getstatic 0, 3, 165) := rfl
theorem at_79_31 : am_at am_m79 31 = some (.iload 1, 1, 0) := rfl
theorem at_79_32 : am_at am_m79 32 = some (.aaload, 1, 0) := rfl
theorem at_79_33 : am_at am_m79 33 = some (.areturn, 1, 0) := rfl
theorem at_79_34 : am_at am_m79 34 = some (.iinc 1 1, 3, 0) := rfl
theorem at_79_37 : am_at am_m79 37 = some (.goto 2, 3, 0) := rfl
theorem at_79_40 : am_at am_m79 40 = some (.aconst_null, 1, 0) := rfl
theorem at_79_41 : am_at am_m79 41 = some (.areturn, 1, 0) := rfl
def h_79_2 (n : Nat) (H2 : Int32 → amS → amQ) (l1 : Int32) (S : amS) : amQ := if 19 ≤ l1 then some (.inl (some .null), S) else az_ck l1 19 (az_if (1000 ≤ (1000 + l1.toNatClampNeg) ∧ (1000 + l1.toNatClampNeg) < 1019) (az_bI (g_107 n ((1000 + l1.toNatClampNeg) + 100) S) fun x1 S2 => if x1 = 0 then H2 (l1 + 1) S2 else az_ck l1 19 (some (.inl (some (.ref (1000 + l1.toNatClampNeg))), S2))))
def g_79_2 : Nat → Int32 → amS → amQ
  | 0 => fun _ _ => none
  | n + 1 => h_79_2 n (g_79_2 n)
theorem th_79_2 {X : amX} {d e : Nat} {R : amS} {u : Nat → Int64} {H2 : Int32 → amS → amQ} (hd : 2 ≤ d) (n : Nat) (hH2 : ∀ (l1 : Int32) (S : amS), AW X d am_m79 (wc R u) e 2 [(0, .ref 23), (1, .int l1)] [] S (H2 l1 S)) (l1 : Int32)  (S : amS) : AW X d am_m79 (wc R u) e 2 [(0, .ref 23), (1, .int l1)] [] S (h_79_2 n H2 l1 S) := by
  unfold h_79_2
  refine aw_iload at_79_2 rfl ?_
  refine aw_gets at_79_3 (Or.inl ⟨rfl, rfl⟩) ?_
  refine aw_alen 19 at_79_6 al_1200 (by decide) ?_
  refine aw_icmp_ge at_79_7 ?_ ?_
  · refine aw_null at_79_40 ?_
    exact aw_rN at_79_41 rfl
  · refine aw_aload at_79_10 rfl ?_
    refine aw_getf at_79_11 gf_600 ?_
    refine aw_gets at_79_14 (Or.inl ⟨rfl, rfl⟩) ?_
    refine aw_iload at_79_17 rfl ?_
    refine aw_aald at_79_18 ?_
    refine aw_getw (.ref ((1000 + l1.toNatClampNeg) + 100)) at_79_19 (Or.inl ⟨rfl, rfl⟩) ?_
    refine aw_cI at_79_22 rfl (c_107 (by omega) n _ _) (fun _ h => by cases h) rfl (fun x1 S2 => ?_)
    refine aw_if_eq at_79_25 ?_ ?_
    · refine aw_iinc at_79_34 rfl (by decide) rfl ic_1 rfl ?_
      refine aw_goto at_79_37 ?_
      exact aw_sub (al_cons rfl (al_cons rfl al_nil)) (hH2 (l1 + 1) S2)
    · refine aw_gets at_79_28 (Or.inl ⟨rfl, rfl⟩) ?_
      refine aw_iload at_79_31 rfl ?_
      refine aw_aald at_79_32 ?_
      exact aw_rA at_79_33 rfl
theorem t_79_2 {X : amX} {d e : Nat} {R : amS} {u : Nat → Int64} (hd : 2 ≤ d) : ∀ (n : Nat)  (l1 : Int32) (S : amS), AW X d am_m79 (wc R u) e 2 [(0, .ref 23), (1, .int l1)] [] S (g_79_2 n l1 S)
  | 0, _, _ => aw_none
  | n + 1, l1, S => th_79_2 hd n (t_79_2 hd n) l1 S
def g_79 (n : Nat) (S : amS) : amQ := g_79_2 n 0 S
theorem t_79 {X : amX} {d e : Nat} {R : amS} {u : Nat → Int64} (hd : 2 ≤ d) (n : Nat)  (S : amS) : AW X d am_m79 (wc R u) e 0 [(0, .ref 23)] [] S (g_79 n S) := by
  unfold g_79
  refine aw_ic 0 at_79_0 ic_0 ?_
  refine aw_istore at_79_1 (by decide) rfl rfl ?_
  exact aw_sub (al_cons rfl (al_cons rfl al_nil)) (t_79_2 (by omega) n 0 S)
theorem c_79 {X : amX} {d : Nat} {R : amS} {u : Nat → Int64} (hd : 3 ≤ d) (n : Nat) (S : amS) : CW X d 79 [.ref 23] (wc R u) S (g_79 n S) := cw_up (by omega) (fun d' h => by
  subst h
  exact cw_of rfl (by decide) (Nat.le_of_ble_eq_true rfl) rfl (fun e => t_79 (by omega) n S))
/-! 82: ListDesk$Reader.body(I)V -/
theorem at_82_0 : am_at am_m82 0 = some (.aload 0, 1, 0) := rfl
theorem at_82_1 : am_at am_m82 1 = some (.iload 1, 1, 0) := rfl
theorem at_82_2 : am_at am_m82 2 = some (.invokevirtual 73, 3, 50) := rfl
theorem at_82_5 : am_at am_m82 5 = some (.iconst 0, 1, 0) := rfl
theorem at_82_6 : am_at am_m82 6 = some (.istore 2, 1, 0) := rfl
theorem at_82_7 : am_at am_m82 7 = some (.iload 2, 1, 0) := rfl
theorem at_82_8 : am_at am_m82 8 = some (.iconst 250, 3, 2) := rfl
theorem at_82_11 : am_at am_m82 11 = some (.if_icmp .ge 41, 3, 0) := rfl
theorem at_82_14 : am_at am_m82 14 = some (.aload 0, 1, 0) := rfl
theorem at_82_15 : am_at am_m82 15 = some (.getfield 600, 3, 9) := rfl
theorem at_82_18 : am_at am_m82 18 = some (.invokevirtual 104, 3, 79) := rfl
theorem at_82_21 : am_at am_m82 21 = some (.iconst 41, 2, 1) := rfl
theorem at_82_23 : am_at am_m82 23 = some (.if_icmp .eq 41, 3, 0) := rfl
theorem at_82_26 : am_at am_m82 26 = some (.aload 0, 1, 0) := rfl
theorem at_82_27 : am_at am_m82 27 = some (.invokevirtual 83, 3, 58) := rfl
theorem at_82_30 : am_at am_m82 30 = some (.aload 0, 1, 0) := rfl
theorem at_82_31 : am_at am_m82 31 = some (.iload 1, 1, 0) := rfl
theorem at_82_32 : am_at am_m82 32 = some (.invokevirtual 73, 3, 50) := rfl
theorem at_82_35 : am_at am_m82 35 = some (.iinc 2 1, 3, 0) := rfl
theorem at_82_38 : am_at am_m82 38 = some (.goto 7, 3, 0) := rfl
theorem at_82_41 : am_at am_m82 41 = some (.return_, 1, 0) := rfl
def h_82_7 (E : Int32 → amS → amQ) (n : Nat) (H7 : Int32 → Int32 → amS → amQ) (l1 : Int32) (l2 : Int32) (S : amS) : amQ := if 250 ≤ l2 then some (.inl none, S) else az_bI (g_104 n S) fun x1 S2 => if x1 = 41 then some (.inl none, S2) else az_bV (g_83 S2) fun S3 => az_bV (E l1 S3) fun S4 => H7 l1 (l2 + 1) S4
def g_82_7 (E : Int32 → amS → amQ) : Nat → Int32 → Int32 → amS → amQ
  | 0 => fun _ _ _ => none
  | n + 1 => h_82_7 E n (g_82_7 E n)
theorem th_82_7 {X : amX} {d dE e : Nat} {R : amS} {u : Nat → Int64} {E : Int32 → amS → amQ} {H7 : Int32 → Int32 → amS → amQ} (hE : ∀ dep S d', dE ≤ d' → CW X d' 73 [.ref 23, .int dep] (wc R u) S (E dep S)) (hd : dE + 3 ≤ d) (n : Nat) (hH7 : ∀ (l1 : Int32) (l2 : Int32) (S : amS), AW X d am_m82 (wc R u) e 7 [(0, .ref 23), (1, .int l1), (2, .int l2)] [] S (H7 l1 l2 S)) (l1 : Int32) (l2 : Int32)  (S : amS) : AW X d am_m82 (wc R u) e 7 [(0, .ref 23), (1, .int l1), (2, .int l2)] [] S (h_82_7 E n H7 l1 l2 S) := by
  unfold h_82_7
  refine aw_iload at_82_7 rfl ?_
  refine aw_ic 250 at_82_8 ic_250 ?_
  refine aw_icmp_ge at_82_11 ?_ ?_
  · exact aw_rV at_82_41 rfl
  · refine aw_aload at_82_14 rfl ?_
    refine aw_getf at_82_15 gf_600 ?_
    refine aw_cI at_82_18 rfl (c_104 (by omega) n _) (fun _ h => by cases h) rfl (fun x1 S2 => ?_)
    refine aw_ic 41 at_82_21 ic_41 ?_
    refine aw_icmp_eq at_82_23 ?_ ?_
    · exact aw_rV at_82_41 rfl
    · refine aw_aload at_82_26 rfl ?_
      refine aw_cV at_82_27 rfl (c_83 (by omega) _) (fun _ h => by cases h) rfl (fun S3 => ?_)
      refine aw_aload at_82_30 rfl ?_
      refine aw_iload at_82_31 rfl ?_
      refine aw_cV at_82_32 rfl (hE _ _ _ (by omega)) (fun _ h => by cases h) rfl (fun S4 => ?_)
      refine aw_iinc at_82_35 rfl (by decide) rfl ic_1 rfl ?_
      refine aw_goto at_82_38 ?_
      exact aw_sub (al_cons rfl (al_cons rfl (al_cons rfl al_nil))) (hH7 l1 (l2 + 1) S4)
theorem t_82_7 {X : amX} {d dE e : Nat} {R : amS} {u : Nat → Int64} {E : Int32 → amS → amQ} (hE : ∀ dep S d', dE ≤ d' → CW X d' 73 [.ref 23, .int dep] (wc R u) S (E dep S)) (hd : dE + 3 ≤ d) : ∀ (n : Nat)  (l1 : Int32) (l2 : Int32) (S : amS), AW X d am_m82 (wc R u) e 7 [(0, .ref 23), (1, .int l1), (2, .int l2)] [] S (g_82_7 E n l1 l2 S)
  | 0, _, _, _ => aw_none
  | n + 1, l1, l2, S => th_82_7 hE hd n (t_82_7 hE hd n) l1 l2 S
def g_82 (E : Int32 → amS → amQ) (n : Nat) (l1 : Int32) (S : amS) : amQ := az_bV (E l1 S) fun S1 => g_82_7 E n l1 0 S1
theorem t_82 {X : amX} {d dE e : Nat} {R : amS} {u : Nat → Int64} {E : Int32 → amS → amQ} (hE : ∀ dep S d', dE ≤ d' → CW X d' 73 [.ref 23, .int dep] (wc R u) S (E dep S)) (hd : dE + 3 ≤ d) (n : Nat)  (l1 : Int32) (S : amS) : AW X d am_m82 (wc R u) e 0 [(0, .ref 23), (1, .int l1)] [] S (g_82 E n l1 S) := by
  unfold g_82
  refine aw_aload at_82_0 rfl ?_
  refine aw_iload at_82_1 rfl ?_
  refine aw_cV at_82_2 rfl (hE _ _ _ (by omega)) (fun _ h => by cases h) rfl (fun S1 => ?_)
  refine aw_ic 0 at_82_5 ic_0 ?_
  refine aw_istore at_82_6 (by decide) rfl rfl ?_
  exact aw_sub (al_cons rfl (al_cons rfl (al_cons rfl al_nil))) (t_82_7 hE (by omega) n l1 0 S1)
theorem c_82 {X : amX} {d dE : Nat} {R : amS} {u : Nat → Int64} {E : Int32 → amS → amQ} (hE : ∀ dep S d', dE ≤ d' → CW X d' 73 [.ref 23, .int dep] (wc R u) S (E dep S)) (hd : dE + 4 ≤ d) (n : Nat) (l1 : Int32) (S : amS) : CW X d 82 [.ref 23, .int l1] (wc R u) S (g_82 E n l1 S) := cw_up (by omega) (fun d' h => by
  subst h
  exact cw_of rfl (by decide) (Nat.le_of_ble_eq_true rfl) rfl (fun e => t_82 hE (by omega) n l1 S))
/-! 81: ListDesk$Reader.bracket(I)V -/
theorem at_81_0 : am_at am_m81 0 = some (.aload 0, 1, 0) := rfl
theorem at_81_1 : am_at am_m81 1 = some (.getfield 600, 3, 9) := rfl
theorem at_81_4 : am_at am_m81 4 = some (.invokevirtual 104, 3, 79) := rfl
theorem at_81_7 : am_at am_m81 7 = some (.iload 1, 1, 0) := rfl
theorem at_81_8 : am_at am_m81 8 = some (.if_icmp .eq 22, 3, 0) := rfl
theorem at_81_11 : am_at am_m81 11 = some (.aload 0, 1, 0) := rfl
theorem at_81_12 : am_at am_m81 12 = some (.aload 0, 1, 0) := rfl
theorem at_81_13 : am_at am_m81 13 = some (.getfield 600, 3, 9) := rfl
theorem at_81_16 : am_at am_m81 16 = some (.getfield 10703, 3, 102) := rfl
theorem at_81_19 : am_at am_m81 19 = some (.invokevirtual 72, 3, 119) := rfl
theorem at_81_22 : am_at am_m81 22 = some (.aload 0, 1, 0) := rfl
theorem at_81_23 : am_at am_m81 23 = some (.getfield 600, 3, 9) := rfl
theorem at_81_26 : am_at am_m81 26 = some (.dup, 1, 0) := rfl
theorem at_81_27 : am_at am_m81 27 = some (.getfield 10703, 3, 102) := rfl
theorem at_81_30 : am_at am_m81 30 = some (.iconst 1, 1, 0) := rfl
theorem at_81_31 : am_at am_m81 31 = some (.iadd, 1, 0) := rfl
theorem at_81_32 : am_at am_m81 32 = some (.putfield 10703, 3, 102) := rfl
theorem at_81_35 : am_at am_m81 35 = some (.return_, 1, 0) := rfl
def g_81_22 (n : Nat) (S : amS) : amQ := az_st (sI S 21 3 ((S.1 21 3) + 1)) fun S1 => some (.inl none, S1)
theorem t_81_22 {X : amX} {d e : Nat} {R : amS} {u : Nat → Int64} (hd : 3 ≤ d) (n : Nat)  (S : amS) : AW X d am_m81 (wc R u) e 22 [(0, .ref 23)] [] S (g_81_22 n S) := by
  unfold g_81_22
  refine aw_aload at_81_22 rfl ?_
  refine aw_getf at_81_23 gf_600 ?_
  refine aw_dupA at_81_26 ?_
  refine aw_getf at_81_27 gf_10703 ?_
  refine aw_ic 1 at_81_30 ic_1 ?_
  refine aw_iadd at_81_31 ?_
  refine aw_putf at_81_32 (pf_10703 _) (fun S1 => ?_)
  exact aw_rV at_81_35 rfl
def g_81 (n : Nat) (l1 : Int32) (S : amS) : amQ := az_bI (g_104 n S) fun x1 S2 => if x1 = l1 then g_81_22 n S2 else az_bV (g_72 (S2.1 21 3) S2) fun S3 => g_81_22 n S3
theorem t_81 {X : amX} {d e : Nat} {R : amS} {u : Nat → Int64} (hd : 3 ≤ d) (n : Nat)  (l1 : Int32) (S : amS) : AW X d am_m81 (wc R u) e 0 [(0, .ref 23), (1, .int l1)] [] S (g_81 n l1 S) := by
  unfold g_81
  refine aw_aload at_81_0 rfl ?_
  refine aw_getf at_81_1 gf_600 ?_
  refine aw_cI at_81_4 rfl (c_104 (by omega) n _) (fun _ h => by cases h) rfl (fun x1 S2 => ?_)
  refine aw_iload at_81_7 rfl ?_
  refine aw_icmp_eq at_81_8 ?_ ?_
  · exact aw_sub (al_cons rfl al_nil) (t_81_22 (by omega) n S2)
  · refine aw_aload at_81_11 rfl ?_
    refine aw_aload at_81_12 rfl ?_
    refine aw_getf at_81_13 gf_600 ?_
    refine aw_getf at_81_16 gf_10703 ?_
    refine aw_cV at_81_19 rfl (c_72 (by omega) _ _) (fun _ h => by cases h) rfl (fun S3 => ?_)
    exact aw_sub (al_cons rfl al_nil) (t_81_22 (by omega) n S3)
theorem c_81 {X : amX} {d : Nat} {R : amS} {u : Nat → Int64} (hd : 4 ≤ d) (n : Nat) (l1 : Int32) (S : amS) : CW X d 81 [.ref 23, .int l1] (wc R u) S (g_81 n l1 S) := cw_up (by omega) (fun d' h => by
  subst h
  exact cw_of rfl (by decide) (Nat.le_of_ble_eq_true rfl) rfl (fun e => t_81 (by omega) n l1 S))
/-! 84: ListDesk$Reader.newLetter(I)V -/
theorem at_84_0 : am_at am_m84 0 = some (.aload 0, 1, 0) := rfl
theorem at_84_1 : am_at am_m84 1 = some (.getfield 600, 3, 9) := rfl
theorem at_84_4 : am_at am_m84 4 = some (.invokevirtual 103, 3, 75) := rfl
theorem at_84_7 : am_at am_m84 7 = some (.istore 2, 1, 0) := rfl
theorem at_84_8 : am_at am_m84 8 = some (.aload 0, 1, 0) := rfl
theorem at_84_9 : am_at am_m84 9 = some (.getfield 600, 3, 9) := rfl
theorem at_84_12 : am_at am_m84 12 = some (.invokevirtual 108, 3, 134) := rfl
theorem at_84_15 : am_at am_m84 15 = some (.istore 3, 1, 0) := rfl
theorem at_84_16 : am_at am_m84 16 = some (.iload 3, 1, 0) := rfl
theorem at_84_17 : am_at am_m84 17 = some (.ifCond .lt 32, 3, 0) := rfl
theorem at_84_20 : am_at am_m84 20 = some (.aload 0, 1, 0) := rfl
theorem at_84_21 : am_at am_m84 21 = some (.getfield 602, 3, 19) := rfl
theorem at_84_24 : am_at am_m84 24 = some (.iload 1, 1, 0) := rfl
theorem at_84_25 : am_at am_m84 25 = some (.iload 3, 1, 0) := rfl
theorem at_84_26 : am_at am_m84 26 = some (.invokevirtual 57, 3, 199) := rfl
theorem at_84_29 : am_at am_m84 29 = some (.ifCond .eq 37, 3, 0) := rfl
theorem at_84_32 : am_at am_m84 32 = some (.aload 0, 1, 0) := rfl
theorem at_84_33 : am_at am_m84 33 = some (.iload 2, 1, 0) := rfl
theorem at_84_34 : am_at am_m84 34 = some (.invokevirtual 72, 3, 119) := rfl
theorem at_84_37 : am_at am_m84 37 = some (.aload 0, 1, 0) := rfl
theorem at_84_38 : am_at am_m84 38 = some (.getfield 600, 3, 9) := rfl
theorem at_84_41 : am_at am_m84 41 = some (.dup, 1, 0) := rfl
theorem at_84_42 : am_at am_m84 42 = some (.getfield 10703, 3, 102) := rfl
theorem at_84_45 : am_at am_m84 45 = some (.iconst 1, 1, 0) := rfl
theorem at_84_46 : am_at am_m84 46 = some (.iadd, 1, 0) := rfl
theorem at_84_47 : am_at am_m84 47 = some (.putfield 10703, 3, 102) := rfl
theorem at_84_50 : am_at am_m84 50 = some (.aload 0, 1, 0) := rfl
theorem at_84_51 : am_at am_m84 51 = some (.getfield 602, 3, 19) := rfl
theorem at_84_54 : am_at am_m84 54 = some (.iload 3, 1, 0) := rfl
theorem at_84_55 : am_at am_m84 55 = some (.invokevirtual 56, 3, 203) := rfl
theorem at_84_58 : am_at am_m84 58 = some (.return_, 1, 0) := rfl
def g_84_37 (n : Nat) (l3 : Int32) (S : amS) : amQ := az_st (sI S 21 3 ((S.1 21 3) + 1)) fun S1 => az_bV (g_56 l3 S1) fun S2 => some (.inl none, S2)
theorem t_84_37 {X : amX} {d e : Nat} {R : amS} {u : Nat → Int64} (hd : 2 ≤ d) (n : Nat)  (l3 : Int32) (S : amS) : AW X d am_m84 (wc R u) e 37 [(0, .ref 23), (3, .int l3)] [] S (g_84_37 n l3 S) := by
  unfold g_84_37
  refine aw_aload at_84_37 rfl ?_
  refine aw_getf at_84_38 gf_600 ?_
  refine aw_dupA at_84_41 ?_
  refine aw_getf at_84_42 gf_10703 ?_
  refine aw_ic 1 at_84_45 ic_1 ?_
  refine aw_iadd at_84_46 ?_
  refine aw_putf at_84_47 (pf_10703 _) (fun S1 => ?_)
  refine aw_aload at_84_50 rfl ?_
  refine aw_getf at_84_51 gf_602 ?_
  refine aw_iload at_84_54 rfl ?_
  refine aw_cV at_84_55 rfl (c_56 (by omega) _ _) (fun _ h => by cases h) rfl (fun S2 => ?_)
  exact aw_rV at_84_58 rfl
def g_84_32 (n : Nat) (l2 : Int32) (l3 : Int32) (S : amS) : amQ := az_bV (g_72 l2 S) fun S1 => g_84_37 n l3 S1
theorem t_84_32 {X : amX} {d e : Nat} {R : amS} {u : Nat → Int64} (hd : 2 ≤ d) (n : Nat)  (l2 : Int32) (l3 : Int32) (S : amS) : AW X d am_m84 (wc R u) e 32 [(0, .ref 23), (2, .int l2), (3, .int l3)] [] S (g_84_32 n l2 l3 S) := by
  unfold g_84_32
  refine aw_aload at_84_32 rfl ?_
  refine aw_iload at_84_33 rfl ?_
  refine aw_cV at_84_34 rfl (c_72 (by omega) _ _) (fun _ h => by cases h) rfl (fun S1 => ?_)
  exact aw_sub (al_cons rfl (al_cons rfl al_nil)) (t_84_37 (by omega) n l3 S1)
def g_84 (n : Nat) (l1 : Int32) (S : amS) : amQ := az_bI (g_103 n S) fun x1 S2 => az_bI (g_108 S2) fun x3 S4 => if x3 < 0 then g_84_32 n x1 x3 S4 else az_bI (g_57 n l1 x3 S4) fun x5 S6 => if x5 = 0 then g_84_37 n x3 S6 else g_84_32 n x1 x3 S6
theorem t_84 {X : amX} {d e : Nat} {R : amS} {u : Nat → Int64} (hd : 2 ≤ d) (n : Nat)  (l1 : Int32) (S : amS) : AW X d am_m84 (wc R u) e 0 [(0, .ref 23), (1, .int l1)] [] S (g_84 n l1 S) := by
  unfold g_84
  refine aw_aload at_84_0 rfl ?_
  refine aw_getf at_84_1 gf_600 ?_
  refine aw_cI at_84_4 rfl (c_103 (by omega) n _) (fun _ h => by cases h) rfl (fun x1 S2 => ?_)
  refine aw_istore at_84_7 (by decide) rfl rfl ?_
  refine aw_aload at_84_8 rfl ?_
  refine aw_getf at_84_9 gf_600 ?_
  refine aw_cI at_84_12 rfl (c_108 (by omega) _) (fun _ h => by cases h) rfl (fun x3 S4 => ?_)
  refine aw_istore at_84_15 (by decide) rfl rfl ?_
  refine aw_iload at_84_16 rfl ?_
  refine aw_if_lt at_84_17 ?_ ?_
  · exact aw_sub (al_cons rfl (al_cons rfl (al_cons rfl al_nil))) (t_84_32 (by omega) n x1 x3 S4)
  · refine aw_aload at_84_20 rfl ?_
    refine aw_getf at_84_21 gf_602 ?_
    refine aw_iload at_84_24 rfl ?_
    refine aw_iload at_84_25 rfl ?_
    refine aw_cI at_84_26 rfl (c_57 (by omega) n _ _ _) (fun _ h => by cases h) rfl (fun x5 S6 => ?_)
    refine aw_if_eq at_84_29 ?_ ?_
    · exact aw_sub (al_cons rfl (al_cons rfl al_nil)) (t_84_37 (by omega) n x3 S6)
    · exact aw_sub (al_cons rfl (al_cons rfl (al_cons rfl al_nil))) (t_84_32 (by omega) n x1 x3 S6)
theorem c_84 {X : amX} {d : Nat} {R : amS} {u : Nat → Int64} (hd : 3 ≤ d) (n : Nat) (l1 : Int32) (S : amS) : CW X d 84 [.ref 23, .int l1] (wc R u) S (g_84 n l1 S) := cw_up (by omega) (fun d' h => by
  subst h
  exact cw_of rfl (by decide) (Nat.le_of_ble_eq_true rfl) rfl (fun e => t_84 (by omega) n l1 S))
/-! 85: ListDesk$Reader.lambda(II)V -/
theorem at_85_0 : am_at am_m85 0 = some (.aload 0, 1, 0) := rfl
theorem at_85_1 : am_at am_m85 1 = some (.getfield 602, 3, 19) := rfl
theorem at_85_4 : am_at am_m85 4 = some (.getfield 10408, 3, 206) := rfl
theorem at_85_7 : am_at am_m85 7 = some (.istore 3, 1, 0) := rfl
theorem at_85_8 : am_at am_m85 8 = some (.aload 0, 1, 0) := rfl
theorem at_85_9 : am_at am_m85 9 = some (.iconst 40, 2, 1) := rfl
theorem at_85_11 : am_at am_m85 11 = some (.invokevirtual 81, 3, 162) := rfl
theorem at_85_14 : am_at am_m85 14 = some (.iconst 0, 1, 0) := rfl
theorem at_85_15 : am_at am_m85 15 = some (.istore 4, 2, 0) := rfl
theorem at_85_17 : am_at am_m85 17 = some (.iload 4, 2, 0) := rfl
theorem at_85_19 : am_at am_m85 19 = some (.iconst 4, 1, 0) := rfl
theorem at_85_20 : am_at am_m85 20 = some (.if_icmp .ge 46, 3, 0) := rfl
theorem at_85_23 : am_at am_m85 23 = some (.aload 0, 1, 0) := rfl
theorem at_85_24 : am_at am_m85 24 = some (.getfield 600, 3, 9) := rfl
theorem at_85_27 : am_at am_m85 27 = some (.invokevirtual 104, 3, 79) := rfl
theorem at_85_30 : am_at am_m85 30 = some (.iconst 41, 2, 1) := rfl
theorem at_85_32 : am_at am_m85 32 = some (.if_icmp .eq 46, 3, 0) := rfl
theorem at_85_35 : am_at am_m85 35 = some (.aload 0, 1, 0) := rfl
theorem at_85_36 : am_at am_m85 36 = some (.iload 3, 1, 0) := rfl
theorem at_85_37 : am_at am_m85 37 = some (.invokevirtual 84, 3, 209) := rfl
theorem at_85_40 : am_at am_m85 40 = some (.iinc 4 1, 3, 0) := rfl
theorem at_85_43 : am_at am_m85 43 = some (.goto 17, 3, 0) := rfl
theorem at_85_46 : am_at am_m85 46 = some (.aload 0, 1, 0) := rfl
theorem at_85_47 : am_at am_m85 47 = some (.iconst 41, 2, 1) := rfl
theorem at_85_49 : am_at am_m85 49 = some (.invokevirtual 81, 3, 162) := rfl
theorem at_85_52 : am_at am_m85 52 = some (.aload 0, 1, 0) := rfl
theorem at_85_53 : am_at am_m85 53 = some (.getfield 604, 3, 47) := rfl
theorem at_85_56 : am_at am_m85 56 = some (.istore 4, 2, 0) := rfl
theorem at_85_58 : am_at am_m85 58 = some (.aload 0, 1, 0) := rfl
theorem at_85_59 : am_at am_m85 59 = some (.getfield 601, 3, 15) := rfl
theorem at_85_62 : am_at am_m85 62 = some (.iconst 5, 1, 0) := rfl
theorem at_85_63 : am_at am_m85 63 = some (.aload 0, 1, 0) := rfl
theorem at_85_64 : am_at am_m85 64 = some (.getfield 603, 3, 23) := rfl
theorem at_85_67 : am_at am_m85 67 = some (.getfield 10107, 3, 212) := rfl
theorem at_85_70 : am_at am_m85 70 = some (.iload 1, 1, 0) := rfl
theorem at_85_71 : am_at am_m85 71 = some (.invokevirtual 2, 3, 61) := rfl
theorem at_85_74 : am_at am_m85 74 = some (.pop, 1, 0) := rfl
theorem at_85_75 : am_at am_m85 75 = some (.aload 0, 1, 0) := rfl
theorem at_85_76 : am_at am_m85 76 = some (.getfield 603, 3, 23) := rfl
theorem at_85_79 : am_at am_m85 79 = some (.aload 0, 1, 0) := rfl
theorem at_85_80 : am_at am_m85 80 = some (.getfield 601, 3, 15) := rfl
theorem at_85_83 : am_at am_m85 83 = some (.getfield 10003, 3, 215) := rfl
theorem at_85_86 : am_at am_m85 86 = some (.aload 0, 1, 0) := rfl
theorem at_85_87 : am_at am_m85 87 = some (.getfield 602, 3, 19) := rfl
theorem at_85_90 : am_at am_m85 90 = some (.getfield 10408, 3, 206) := rfl
theorem at_85_93 : am_at am_m85 93 = some (.iload 3, 1, 0) := rfl
theorem at_85_94 : am_at am_m85 94 = some (.isub, 1, 0) := rfl
theorem at_85_95 : am_at am_m85 95 = some (.aload 0, 1, 0) := rfl
theorem at_85_96 : am_at am_m85 96 = some (.getfield 602, 3, 19) := rfl
theorem at_85_99 : am_at am_m85 99 = some (.getfield 10404, 3, 218) := rfl
theorem at_85_102 : am_at am_m85 102 = some (.invokevirtual 9, 3, 219) := rfl
theorem at_85_105 : am_at am_m85 105 = some (.aload 0, 1, 0) := rfl
theorem at_85_106 : am_at am_m85 106 = some (.aload 0, 1, 0) := rfl
theorem at_85_107 : am_at am_m85 107 = some (.getfield 602, 3, 19) := rfl
theorem at_85_110 : am_at am_m85 110 = some (.iload 3, 1, 0) := rfl
theorem at_85_111 : am_at am_m85 111 = some (.iconst 0, 1, 0) := rfl
theorem at_85_112 : am_at am_m85 112 = some (.aload 0, 1, 0) := rfl
theorem at_85_113 : am_at am_m85 113 = some (.getfield 603, 3, 23) := rfl
theorem at_85_116 : am_at am_m85 116 = some (.getfield 10109, 3, 222) := rfl
theorem at_85_119 : am_at am_m85 119 = some (.invokevirtual 58, 3, 225) := rfl
theorem at_85_122 : am_at am_m85 122 = some (.putfield 604, 3, 47) := rfl
theorem at_85_125 : am_at am_m85 125 = some (.aload 0, 1, 0) := rfl
theorem at_85_126 : am_at am_m85 126 = some (.getfield 604, 3, 47) := rfl
theorem at_85_129 : am_at am_m85 129 = some (.istore 5, 2, 0) := rfl
theorem at_85_131 : am_at am_m85 131 = some (.aload 0, 1, 0) := rfl
theorem at_85_132 : am_at am_m85 132 = some (.iload 2, 1, 0) := rfl
theorem at_85_133 : am_at am_m85 133 = some (.invokevirtual 82, 3, 193) := rfl
theorem at_85_136 : am_at am_m85 136 = some (.aload 0, 1, 0) := rfl
theorem at_85_137 : am_at am_m85 137 = some (.getfield 601, 3, 15) := rfl
theorem at_85_140 : am_at am_m85 140 = some (.iconst 16, 2, 1) := rfl
theorem at_85_142 : am_at am_m85 142 = some (.iconst 0, 1, 0) := rfl
theorem at_85_143 : am_at am_m85 143 = some (.iconst (-1), 1, 0) := rfl
theorem at_85_144 : am_at am_m85 144 = some (.invokevirtual 2, 3, 61) := rfl
theorem at_85_147 : am_at am_m85 147 = some (.pop, 1, 0) := rfl
theorem at_85_148 : am_at am_m85 148 = some (.aload 0, 1, 0) := rfl
theorem at_85_149 : am_at am_m85 149 = some (.getfield 602, 3, 19) := rfl
theorem at_85_152 : am_at am_m85 152 = some (.iload 5, 2, 0) := rfl
theorem at_85_154 : am_at am_m85 154 = some (.invokevirtual 59, 3, 228) := rfl
theorem at_85_157 : am_at am_m85 157 = some (.aload 0, 1, 0) := rfl
theorem at_85_158 : am_at am_m85 158 = some (.getfield 603, 3, 23) := rfl
theorem at_85_161 : am_at am_m85 161 = some (.aload 0, 1, 0) := rfl
theorem at_85_162 : am_at am_m85 162 = some (.getfield 601, 3, 15) := rfl
theorem at_85_165 : am_at am_m85 165 = some (.getfield 10003, 3, 215) := rfl
theorem at_85_168 : am_at am_m85 168 = some (.invokevirtual 10, 3, 231) := rfl
theorem at_85_171 : am_at am_m85 171 = some (.aload 0, 1, 0) := rfl
theorem at_85_172 : am_at am_m85 172 = some (.iload 4, 2, 0) := rfl
theorem at_85_174 : am_at am_m85 174 = some (.iconst 1, 1, 0) := rfl
theorem at_85_175 : am_at am_m85 175 = some (.iadd, 1, 0) := rfl
theorem at_85_176 : am_at am_m85 176 = some (.putfield 604, 3, 47) := rfl
theorem at_85_179 : am_at am_m85 179 = some (.return_, 1, 0) := rfl
def g_85_46 (E : Int32 → amS → amQ) (n : Nat) (l1 : Int32) (l2 : Int32) (l3 : Int32) (S : amS) : amQ := az_bV (g_81 n 41 S) fun S1 => az_st (S1.1 23 4) fun x2 => az_bI (g_2 5 (S1.1 12 7) l1 S1) fun x3 S4 => az_bV (g_9 (S4.1 1 3) ((S4.1 5 8) - l3) (S4.1 5 4) S4) fun S5 => az_bI (g_58 n l3 0 (S5.1 12 9) S5) fun x6 S7 => az_st (sI S7 23 4 x6) fun S8 => az_st (S8.1 23 4) fun x9 => az_bV (g_82 E n l2 S8) fun S10 => az_bI (g_2 16 0 ((-1)) S10) fun x11 S12 => az_bV (g_59 x9 S12) fun S13 => az_bV (g_10 (S13.1 1 3) S13) fun S14 => az_st (sI S14 23 4 (x2 + 1)) fun S15 => some (.inl none, S15)
theorem t_85_46 {X : amX} {d dE e : Nat} {R : amS} {u : Nat → Int64} {E : Int32 → amS → amQ} (hE : ∀ dep S d', dE ≤ d' → CW X d' 73 [.ref 23, .int dep] (wc R u) S (E dep S)) (hd : dE + 4 ≤ d) (n : Nat)  (l1 : Int32) (l2 : Int32) (l3 : Int32) (S : amS) : AW X d am_m85 (wc R u) e 46 [(0, .ref 23), (1, .int l1), (2, .int l2), (3, .int l3)] [] S (g_85_46 E n l1 l2 l3 S) := by
  unfold g_85_46
  refine aw_aload at_85_46 rfl ?_
  refine aw_ic 41 at_85_47 ic_41 ?_
  refine aw_cV at_85_49 rfl (c_81 (by omega) n _ _) (fun _ h => by cases h) rfl (fun S1 => ?_)
  refine aw_aload at_85_52 rfl ?_
  refine aw_getf at_85_53 gf_604 ?_
  refine aw_nameI (fun x2 => ?_)
  refine aw_istore at_85_56 (by decide) rfl rfl ?_
  refine aw_aload at_85_58 rfl ?_
  refine aw_getf at_85_59 gf_601 ?_
  refine aw_ic 5 at_85_62 ic_5 ?_
  refine aw_aload at_85_63 rfl ?_
  refine aw_getf at_85_64 gf_603 ?_
  refine aw_getf at_85_67 gf_10107 ?_
  refine aw_iload at_85_70 rfl ?_
  refine aw_cI at_85_71 rfl (c_2 (by omega) _ _ _ _) (fun _ h => by cases h) rfl (fun x3 S4 => ?_)
  refine aw_popI at_85_74 ?_
  refine aw_aload at_85_75 rfl ?_
  refine aw_getf at_85_76 gf_603 ?_
  refine aw_aload at_85_79 rfl ?_
  refine aw_getf at_85_80 gf_601 ?_
  refine aw_getf at_85_83 gf_10003 ?_
  refine aw_aload at_85_86 rfl ?_
  refine aw_getf at_85_87 gf_602 ?_
  refine aw_getf at_85_90 gf_10408 ?_
  refine aw_iload at_85_93 rfl ?_
  refine aw_isub at_85_94 ?_
  refine aw_aload at_85_95 rfl ?_
  refine aw_getf at_85_96 gf_602 ?_
  refine aw_getf at_85_99 gf_10404 ?_
  refine aw_cV at_85_102 rfl (c_9 (by omega) _ _ _ _) (fun _ h => by cases h) rfl (fun S5 => ?_)
  refine aw_aload at_85_105 rfl ?_
  refine aw_aload at_85_106 rfl ?_
  refine aw_getf at_85_107 gf_602 ?_
  refine aw_iload at_85_110 rfl ?_
  refine aw_ic 0 at_85_111 ic_0 ?_
  refine aw_aload at_85_112 rfl ?_
  refine aw_getf at_85_113 gf_603 ?_
  refine aw_getf at_85_116 gf_10109 ?_
  refine aw_cI at_85_119 rfl (c_58 (by omega) n _ _ _ _) (fun _ h => by cases h) rfl (fun x6 S7 => ?_)
  refine aw_putf at_85_122 (pf_604 _) (fun S8 => ?_)
  refine aw_aload at_85_125 rfl ?_
  refine aw_getf at_85_126 gf_604 ?_
  refine aw_nameI (fun x9 => ?_)
  refine aw_istore at_85_129 (by decide) rfl rfl ?_
  refine aw_aload at_85_131 rfl ?_
  refine aw_iload at_85_132 rfl ?_
  refine aw_cV at_85_133 rfl (c_82 hE (by omega) n _ _) (fun _ h => by cases h) rfl (fun S10 => ?_)
  refine aw_aload at_85_136 rfl ?_
  refine aw_getf at_85_137 gf_601 ?_
  refine aw_ic 16 at_85_140 ic_16 ?_
  refine aw_ic 0 at_85_142 ic_0 ?_
  refine aw_ic (-1) at_85_143 ic_m1 ?_
  refine aw_cI at_85_144 rfl (c_2 (by omega) _ _ _ _) (fun _ h => by cases h) rfl (fun x11 S12 => ?_)
  refine aw_popI at_85_147 ?_
  refine aw_aload at_85_148 rfl ?_
  refine aw_getf at_85_149 gf_602 ?_
  refine aw_iload at_85_152 rfl ?_
  refine aw_cV at_85_154 rfl (c_59 (by omega) _ _) (fun _ h => by cases h) rfl (fun S13 => ?_)
  refine aw_aload at_85_157 rfl ?_
  refine aw_getf at_85_158 gf_603 ?_
  refine aw_aload at_85_161 rfl ?_
  refine aw_getf at_85_162 gf_601 ?_
  refine aw_getf at_85_165 gf_10003 ?_
  refine aw_cV at_85_168 rfl (c_10 (by omega) _ _) (fun _ h => by cases h) rfl (fun S14 => ?_)
  refine aw_aload at_85_171 rfl ?_
  refine aw_iload at_85_172 rfl ?_
  refine aw_ic 1 at_85_174 ic_1 ?_
  refine aw_iadd at_85_175 ?_
  refine aw_putf at_85_176 (pf_604 _) (fun S15 => ?_)
  exact aw_rV at_85_179 rfl
def h_85_17 (E : Int32 → amS → amQ) (n : Nat) (H17 : Int32 → Int32 → Int32 → Int32 → amS → amQ) (l1 : Int32) (l2 : Int32) (l3 : Int32) (l4 : Int32) (S : amS) : amQ := if 4 ≤ l4 then g_85_46 E n l1 l2 l3 S else az_bI (g_104 n S) fun x1 S2 => if x1 = 41 then g_85_46 E n l1 l2 l3 S2 else az_bV (g_84 n l3 S2) fun S3 => H17 l1 l2 l3 (l4 + 1) S3
def g_85_17 (E : Int32 → amS → amQ) : Nat → Int32 → Int32 → Int32 → Int32 → amS → amQ
  | 0 => fun _ _ _ _ _ => none
  | n + 1 => h_85_17 E n (g_85_17 E n)
theorem th_85_17 {X : amX} {d dE e : Nat} {R : amS} {u : Nat → Int64} {E : Int32 → amS → amQ} {H17 : Int32 → Int32 → Int32 → Int32 → amS → amQ} (hE : ∀ dep S d', dE ≤ d' → CW X d' 73 [.ref 23, .int dep] (wc R u) S (E dep S)) (hd : dE + 4 ≤ d) (n : Nat) (hH17 : ∀ (l1 : Int32) (l2 : Int32) (l3 : Int32) (l4 : Int32) (S : amS), AW X d am_m85 (wc R u) e 17 [(0, .ref 23), (1, .int l1), (2, .int l2), (3, .int l3), (4, .int l4)] [] S (H17 l1 l2 l3 l4 S)) (l1 : Int32) (l2 : Int32) (l3 : Int32) (l4 : Int32)  (S : amS) : AW X d am_m85 (wc R u) e 17 [(0, .ref 23), (1, .int l1), (2, .int l2), (3, .int l3), (4, .int l4)] [] S (h_85_17 E n H17 l1 l2 l3 l4 S) := by
  unfold h_85_17
  refine aw_iload at_85_17 rfl ?_
  refine aw_ic 4 at_85_19 ic_4 ?_
  refine aw_icmp_ge at_85_20 ?_ ?_
  · exact aw_sub (al_cons rfl (al_cons rfl (al_cons rfl (al_cons rfl al_nil)))) (t_85_46 hE (by omega) n l1 l2 l3 S)
  · refine aw_aload at_85_23 rfl ?_
    refine aw_getf at_85_24 gf_600 ?_
    refine aw_cI at_85_27 rfl (c_104 (by omega) n _) (fun _ h => by cases h) rfl (fun x1 S2 => ?_)
    refine aw_ic 41 at_85_30 ic_41 ?_
    refine aw_icmp_eq at_85_32 ?_ ?_
    · exact aw_sub (al_cons rfl (al_cons rfl (al_cons rfl (al_cons rfl al_nil)))) (t_85_46 hE (by omega) n l1 l2 l3 S2)
    · refine aw_aload at_85_35 rfl ?_
      refine aw_iload at_85_36 rfl ?_
      refine aw_cV at_85_37 rfl (c_84 (by omega) n _ _) (fun _ h => by cases h) rfl (fun S3 => ?_)
      refine aw_iinc at_85_40 rfl (by decide) rfl ic_1 rfl ?_
      refine aw_goto at_85_43 ?_
      exact aw_sub (al_cons rfl (al_cons rfl (al_cons rfl (al_cons rfl (al_cons rfl al_nil))))) (hH17 l1 l2 l3 (l4 + 1) S3)
theorem t_85_17 {X : amX} {d dE e : Nat} {R : amS} {u : Nat → Int64} {E : Int32 → amS → amQ} (hE : ∀ dep S d', dE ≤ d' → CW X d' 73 [.ref 23, .int dep] (wc R u) S (E dep S)) (hd : dE + 4 ≤ d) : ∀ (n : Nat)  (l1 : Int32) (l2 : Int32) (l3 : Int32) (l4 : Int32) (S : amS), AW X d am_m85 (wc R u) e 17 [(0, .ref 23), (1, .int l1), (2, .int l2), (3, .int l3), (4, .int l4)] [] S (g_85_17 E n l1 l2 l3 l4 S)
  | 0, _, _, _, _, _ => aw_none
  | n + 1, l1, l2, l3, l4, S => th_85_17 hE hd n (t_85_17 hE hd n) l1 l2 l3 l4 S
def g_85 (E : Int32 → amS → amQ) (n : Nat) (l1 : Int32) (l2 : Int32) (S : amS) : amQ := az_st (S.1 5 8) fun x1 => az_bV (g_81 n 40 S) fun S2 => g_85_17 E n l1 l2 x1 0 S2
theorem t_85 {X : amX} {d dE e : Nat} {R : amS} {u : Nat → Int64} {E : Int32 → amS → amQ} (hE : ∀ dep S d', dE ≤ d' → CW X d' 73 [.ref 23, .int dep] (wc R u) S (E dep S)) (hd : dE + 4 ≤ d) (n : Nat)  (l1 : Int32) (l2 : Int32) (S : amS) : AW X d am_m85 (wc R u) e 0 [(0, .ref 23), (1, .int l1), (2, .int l2)] [] S (g_85 E n l1 l2 S) := by
  unfold g_85
  refine aw_aload at_85_0 rfl ?_
  refine aw_getf at_85_1 gf_602 ?_
  refine aw_getf at_85_4 gf_10408 ?_
  refine aw_nameI (fun x1 => ?_)
  refine aw_istore at_85_7 (by decide) rfl rfl ?_
  refine aw_aload at_85_8 rfl ?_
  refine aw_ic 40 at_85_9 ic_40 ?_
  refine aw_cV at_85_11 rfl (c_81 (by omega) n _ _) (fun _ h => by cases h) rfl (fun S2 => ?_)
  refine aw_ic 0 at_85_14 ic_0 ?_
  refine aw_istore at_85_15 (by decide) rfl rfl ?_
  exact aw_sub (al_cons rfl (al_cons rfl (al_cons rfl (al_cons rfl (al_cons rfl al_nil))))) (t_85_17 hE (by omega) n l1 l2 x1 0 S2)
theorem c_85 {X : amX} {d dE : Nat} {R : amS} {u : Nat → Int64} {E : Int32 → amS → amQ} (hE : ∀ dep S d', dE ≤ d' → CW X d' 73 [.ref 23, .int dep] (wc R u) S (E dep S)) (hd : dE + 5 ≤ d) (n : Nat) (l1 : Int32) (l2 : Int32) (S : amS) : CW X d 85 [.ref 23, .int l1, .int l2] (wc R u) S (g_85 E n l1 l2 S) := cw_up (by omega) (fun d' h => by
  subst h
  exact cw_of rfl (by decide) (Nat.le_of_ble_eq_true rfl) rfl (fun e => t_85 hE (by omega) n l1 l2 S))
/-! 86: ListDesk$Reader.choice(II)V -/
theorem at_86_0 : am_at am_m86 0 = some (.aload 0, 1, 0) := rfl
theorem at_86_1 : am_at am_m86 1 = some (.getfield 601, 3, 15) := rfl
theorem at_86_4 : am_at am_m86 4 = some (.iconst 1, 1, 0) := rfl
theorem at_86_5 : am_at am_m86 5 = some (.iconst 0, 1, 0) := rfl
theorem at_86_6 : am_at am_m86 6 = some (.iload 1, 1, 0) := rfl
theorem at_86_7 : am_at am_m86 7 = some (.invokevirtual 2, 3, 61) := rfl
theorem at_86_10 : am_at am_m86 10 = some (.pop, 1, 0) := rfl
theorem at_86_11 : am_at am_m86 11 = some (.aload 0, 1, 0) := rfl
theorem at_86_12 : am_at am_m86 12 = some (.iload 2, 1, 0) := rfl
theorem at_86_13 : am_at am_m86 13 = some (.invokevirtual 73, 3, 50) := rfl
theorem at_86_16 : am_at am_m86 16 = some (.aload 0, 1, 0) := rfl
theorem at_86_17 : am_at am_m86 17 = some (.getfield 601, 3, 15) := rfl
theorem at_86_20 : am_at am_m86 20 = some (.iconst 10, 2, 1) := rfl
theorem at_86_22 : am_at am_m86 22 = some (.iconst 0, 1, 0) := rfl
theorem at_86_23 : am_at am_m86 23 = some (.iload 1, 1, 0) := rfl
theorem at_86_24 : am_at am_m86 24 = some (.invokevirtual 2, 3, 61) := rfl
theorem at_86_27 : am_at am_m86 27 = some (.istore 3, 1, 0) := rfl
theorem at_86_28 : am_at am_m86 28 = some (.aload 0, 1, 0) := rfl
theorem at_86_29 : am_at am_m86 29 = some (.dup, 1, 0) := rfl
theorem at_86_30 : am_at am_m86 30 = some (.getfield 604, 3, 47) := rfl
theorem at_86_33 : am_at am_m86 33 = some (.iconst 1, 1, 0) := rfl
theorem at_86_34 : am_at am_m86 34 = some (.isub, 1, 0) := rfl
theorem at_86_35 : am_at am_m86 35 = some (.putfield 604, 3, 47) := rfl
theorem at_86_38 : am_at am_m86 38 = some (.aload 0, 1, 0) := rfl
theorem at_86_39 : am_at am_m86 39 = some (.iload 2, 1, 0) := rfl
theorem at_86_40 : am_at am_m86 40 = some (.invokevirtual 73, 3, 50) := rfl
theorem at_86_43 : am_at am_m86 43 = some (.aload 0, 1, 0) := rfl
theorem at_86_44 : am_at am_m86 44 = some (.getfield 601, 3, 15) := rfl
theorem at_86_47 : am_at am_m86 47 = some (.iconst 9, 2, 1) := rfl
theorem at_86_49 : am_at am_m86 49 = some (.iconst 0, 1, 0) := rfl
theorem at_86_50 : am_at am_m86 50 = some (.iload 1, 1, 0) := rfl
theorem at_86_51 : am_at am_m86 51 = some (.invokevirtual 2, 3, 61) := rfl
theorem at_86_54 : am_at am_m86 54 = some (.istore 4, 2, 0) := rfl
theorem at_86_56 : am_at am_m86 56 = some (.aload 0, 1, 0) := rfl
theorem at_86_57 : am_at am_m86 57 = some (.dup, 1, 0) := rfl
theorem at_86_58 : am_at am_m86 58 = some (.getfield 604, 3, 47) := rfl
theorem at_86_61 : am_at am_m86 61 = some (.iconst 1, 1, 0) := rfl
theorem at_86_62 : am_at am_m86 62 = some (.isub, 1, 0) := rfl
theorem at_86_63 : am_at am_m86 63 = some (.putfield 604, 3, 47) := rfl
theorem at_86_66 : am_at am_m86 66 = some (.aload 0, 1, 0) := rfl
theorem at_86_67 : am_at am_m86 67 = some (.getfield 601, 3, 15) := rfl
theorem at_86_70 : am_at am_m86 70 = some (.iload 3, 1, 0) := rfl
theorem at_86_71 : am_at am_m86 71 = some (.invokevirtual 3, 3, 234) := rfl
theorem at_86_74 : am_at am_m86 74 = some (.aload 0, 1, 0) := rfl
theorem at_86_75 : am_at am_m86 75 = some (.iload 2, 1, 0) := rfl
theorem at_86_76 : am_at am_m86 76 = some (.invokevirtual 73, 3, 50) := rfl
theorem at_86_79 : am_at am_m86 79 = some (.aload 0, 1, 0) := rfl
theorem at_86_80 : am_at am_m86 80 = some (.getfield 601, 3, 15) := rfl
theorem at_86_83 : am_at am_m86 83 = some (.iload 4, 2, 0) := rfl
theorem at_86_85 : am_at am_m86 85 = some (.invokevirtual 3, 3, 234) := rfl
theorem at_86_88 : am_at am_m86 88 = some (.return_, 1, 0) := rfl
def g_86 (E : Int32 → amS → amQ) (n : Nat) (l1 : Int32) (l2 : Int32) (S : amS) : amQ := az_bI (g_2 1 0 l1 S) fun x1 S2 => az_bV (E l2 S2) fun S3 => az_bI (g_2 10 0 l1 S3) fun x4 S5 => az_st (sI S5 23 4 ((S5.1 23 4) - 1)) fun S6 => az_bV (E l2 S6) fun S7 => az_bI (g_2 9 0 l1 S7) fun x8 S9 => az_st (sI S9 23 4 ((S9.1 23 4) - 1)) fun S10 => az_bV (g_3 x4 S10) fun S11 => az_bV (E l2 S11) fun S12 => az_bV (g_3 x8 S12) fun S13 => some (.inl none, S13)
theorem t_86 {X : amX} {d dE e : Nat} {R : amS} {u : Nat → Int64} {E : Int32 → amS → amQ} (hE : ∀ dep S d', dE ≤ d' → CW X d' 73 [.ref 23, .int dep] (wc R u) S (E dep S)) (hd : dE + 2 ≤ d) (n : Nat)  (l1 : Int32) (l2 : Int32) (S : amS) : AW X d am_m86 (wc R u) e 0 [(0, .ref 23), (1, .int l1), (2, .int l2)] [] S (g_86 E n l1 l2 S) := by
  unfold g_86
  refine aw_aload at_86_0 rfl ?_
  refine aw_getf at_86_1 gf_601 ?_
  refine aw_ic 1 at_86_4 ic_1 ?_
  refine aw_ic 0 at_86_5 ic_0 ?_
  refine aw_iload at_86_6 rfl ?_
  refine aw_cI at_86_7 rfl (c_2 (by omega) _ _ _ _) (fun _ h => by cases h) rfl (fun x1 S2 => ?_)
  refine aw_popI at_86_10 ?_
  refine aw_aload at_86_11 rfl ?_
  refine aw_iload at_86_12 rfl ?_
  refine aw_cV at_86_13 rfl (hE _ _ _ (by omega)) (fun _ h => by cases h) rfl (fun S3 => ?_)
  refine aw_aload at_86_16 rfl ?_
  refine aw_getf at_86_17 gf_601 ?_
  refine aw_ic 10 at_86_20 ic_10 ?_
  refine aw_ic 0 at_86_22 ic_0 ?_
  refine aw_iload at_86_23 rfl ?_
  refine aw_cI at_86_24 rfl (c_2 (by omega) _ _ _ _) (fun _ h => by cases h) rfl (fun x4 S5 => ?_)
  refine aw_istore at_86_27 (by decide) rfl rfl ?_
  refine aw_aload at_86_28 rfl ?_
  refine aw_dupA at_86_29 ?_
  refine aw_getf at_86_30 gf_604 ?_
  refine aw_ic 1 at_86_33 ic_1 ?_
  refine aw_isub at_86_34 ?_
  refine aw_putf at_86_35 (pf_604 _) (fun S6 => ?_)
  refine aw_aload at_86_38 rfl ?_
  refine aw_iload at_86_39 rfl ?_
  refine aw_cV at_86_40 rfl (hE _ _ _ (by omega)) (fun _ h => by cases h) rfl (fun S7 => ?_)
  refine aw_aload at_86_43 rfl ?_
  refine aw_getf at_86_44 gf_601 ?_
  refine aw_ic 9 at_86_47 ic_9 ?_
  refine aw_ic 0 at_86_49 ic_0 ?_
  refine aw_iload at_86_50 rfl ?_
  refine aw_cI at_86_51 rfl (c_2 (by omega) _ _ _ _) (fun _ h => by cases h) rfl (fun x8 S9 => ?_)
  refine aw_istore at_86_54 (by decide) rfl rfl ?_
  refine aw_aload at_86_56 rfl ?_
  refine aw_dupA at_86_57 ?_
  refine aw_getf at_86_58 gf_604 ?_
  refine aw_ic 1 at_86_61 ic_1 ?_
  refine aw_isub at_86_62 ?_
  refine aw_putf at_86_63 (pf_604 _) (fun S10 => ?_)
  refine aw_aload at_86_66 rfl ?_
  refine aw_getf at_86_67 gf_601 ?_
  refine aw_iload at_86_70 rfl ?_
  refine aw_cV at_86_71 rfl (c_3 (by omega) _ _) (fun _ h => by cases h) rfl (fun S11 => ?_)
  refine aw_aload at_86_74 rfl ?_
  refine aw_iload at_86_75 rfl ?_
  refine aw_cV at_86_76 rfl (hE _ _ _ (by omega)) (fun _ h => by cases h) rfl (fun S12 => ?_)
  refine aw_aload at_86_79 rfl ?_
  refine aw_getf at_86_80 gf_601 ?_
  refine aw_iload at_86_83 rfl ?_
  refine aw_cV at_86_85 rfl (c_3 (by omega) _ _) (fun _ h => by cases h) rfl (fun S13 => ?_)
  exact aw_rV at_86_88 rfl
theorem c_86 {X : amX} {d dE : Nat} {R : amS} {u : Nat → Int64} {E : Int32 → amS → amQ} (hE : ∀ dep S d', dE ≤ d' → CW X d' 73 [.ref 23, .int dep] (wc R u) S (E dep S)) (hd : dE + 3 ≤ d) (n : Nat) (l1 : Int32) (l2 : Int32) (S : amS) : CW X d 86 [.ref 23, .int l1, .int l2] (wc R u) S (g_86 E n l1 l2 S) := cw_up (by omega) (fun d' h => by
  subst h
  exact cw_of rfl (by decide) (Nat.le_of_ble_eq_true rfl) rfl (fun e => t_86 hE (by omega) n l1 l2 S))
/-! 88: ListDesk$Reader.newVariable(II)V -/
theorem at_88_0 : am_at am_m88 0 = some (.aload 0, 1, 0) := rfl
theorem at_88_1 : am_at am_m88 1 = some (.iconst 40, 2, 1) := rfl
theorem at_88_3 : am_at am_m88 3 = some (.invokevirtual 81, 3, 162) := rfl
theorem at_88_6 : am_at am_m88 6 = some (.aload 0, 1, 0) := rfl
theorem at_88_7 : am_at am_m88 7 = some (.iload 1, 1, 0) := rfl
theorem at_88_8 : am_at am_m88 8 = some (.invokevirtual 84, 3, 209) := rfl
theorem at_88_11 : am_at am_m88 11 = some (.aload 0, 1, 0) := rfl
theorem at_88_12 : am_at am_m88 12 = some (.iload 2, 1, 0) := rfl
theorem at_88_13 : am_at am_m88 13 = some (.invokevirtual 73, 3, 50) := rfl
theorem at_88_16 : am_at am_m88 16 = some (.aload 0, 1, 0) := rfl
theorem at_88_17 : am_at am_m88 17 = some (.iconst 41, 2, 1) := rfl
theorem at_88_19 : am_at am_m88 19 = some (.invokevirtual 81, 3, 162) := rfl
theorem at_88_22 : am_at am_m88 22 = some (.return_, 1, 0) := rfl
def g_88 (E : Int32 → amS → amQ) (n : Nat) (l1 : Int32) (l2 : Int32) (S : amS) : amQ := az_bV (g_81 n 40 S) fun S1 => az_bV (g_84 n l1 S1) fun S2 => az_bV (E l2 S2) fun S3 => az_bV (g_81 n 41 S3) fun S4 => some (.inl none, S4)
theorem t_88 {X : amX} {d dE e : Nat} {R : amS} {u : Nat → Int64} {E : Int32 → amS → amQ} (hE : ∀ dep S d', dE ≤ d' → CW X d' 73 [.ref 23, .int dep] (wc R u) S (E dep S)) (hd : dE + 4 ≤ d) (n : Nat)  (l1 : Int32) (l2 : Int32) (S : amS) : AW X d am_m88 (wc R u) e 0 [(0, .ref 23), (1, .int l1), (2, .int l2)] [] S (g_88 E n l1 l2 S) := by
  unfold g_88
  refine aw_aload at_88_0 rfl ?_
  refine aw_ic 40 at_88_1 ic_40 ?_
  refine aw_cV at_88_3 rfl (c_81 (by omega) n _ _) (fun _ h => by cases h) rfl (fun S1 => ?_)
  refine aw_aload at_88_6 rfl ?_
  refine aw_iload at_88_7 rfl ?_
  refine aw_cV at_88_8 rfl (c_84 (by omega) n _ _) (fun _ h => by cases h) rfl (fun S2 => ?_)
  refine aw_aload at_88_11 rfl ?_
  refine aw_iload at_88_12 rfl ?_
  refine aw_cV at_88_13 rfl (hE _ _ _ (by omega)) (fun _ h => by cases h) rfl (fun S3 => ?_)
  refine aw_aload at_88_16 rfl ?_
  refine aw_ic 41 at_88_17 ic_41 ?_
  refine aw_cV at_88_19 rfl (c_81 (by omega) n _ _) (fun _ h => by cases h) rfl (fun S4 => ?_)
  exact aw_rV at_88_22 rfl
theorem c_88 {X : amX} {d dE : Nat} {R : amS} {u : Nat → Int64} {E : Int32 → amS → amQ} (hE : ∀ dep S d', dE ≤ d' → CW X d' 73 [.ref 23, .int dep] (wc R u) S (E dep S)) (hd : dE + 5 ≤ d) (n : Nat) (l1 : Int32) (l2 : Int32) (S : amS) : CW X d 88 [.ref 23, .int l1, .int l2] (wc R u) S (g_88 E n l1 l2 S) := cw_up (by omega) (fun d' h => by
  subst h
  exact cw_of rfl (by decide) (Nat.le_of_ble_eq_true rfl) rfl (fun e => t_88 hE (by omega) n l1 l2 S))
/-! 90: ListDesk$Reader.leave(I)V -/
theorem at_90_0 : am_at am_m90 0 = some (.aload 0, 1, 0) := rfl
theorem at_90_1 : am_at am_m90 1 = some (.getfield 602, 3, 19) := rfl
theorem at_90_4 : am_at am_m90 4 = some (.iload 1, 1, 0) := rfl
theorem at_90_5 : am_at am_m90 5 = some (.invokevirtual 59, 3, 228) := rfl
theorem at_90_8 : am_at am_m90 8 = some (.aload 0, 1, 0) := rfl
theorem at_90_9 : am_at am_m90 9 = some (.getfield 601, 3, 15) := rfl
theorem at_90_12 : am_at am_m90 12 = some (.iconst 13, 2, 1) := rfl
theorem at_90_14 : am_at am_m90 14 = some (.iload 1, 1, 0) := rfl
theorem at_90_15 : am_at am_m90 15 = some (.iconst (-1), 1, 0) := rfl
theorem at_90_16 : am_at am_m90 16 = some (.invokevirtual 2, 3, 61) := rfl
theorem at_90_19 : am_at am_m90 19 = some (.pop, 1, 0) := rfl
theorem at_90_20 : am_at am_m90 20 = some (.aload 0, 1, 0) := rfl
theorem at_90_21 : am_at am_m90 21 = some (.dup, 1, 0) := rfl
theorem at_90_22 : am_at am_m90 22 = some (.getfield 604, 3, 47) := rfl
theorem at_90_25 : am_at am_m90 25 = some (.iload 1, 1, 0) := rfl
theorem at_90_26 : am_at am_m90 26 = some (.isub, 1, 0) := rfl
theorem at_90_27 : am_at am_m90 27 = some (.putfield 604, 3, 47) := rfl
theorem at_90_30 : am_at am_m90 30 = some (.return_, 1, 0) := rfl
def g_90 (l1 : Int32) (S : amS) : amQ := az_bV (g_59 l1 S) fun S1 => az_bI (g_2 13 l1 ((-1)) S1) fun x2 S3 => az_st (sI S3 23 4 ((S3.1 23 4) - l1)) fun S4 => some (.inl none, S4)
theorem t_90 {X : amX} {d e : Nat} {R : amS} {u : Nat → Int64} (hd : 2 ≤ d)  (l1 : Int32) (S : amS) : AW X d am_m90 (wc R u) e 0 [(0, .ref 23), (1, .int l1)] [] S (g_90 l1 S) := by
  unfold g_90
  refine aw_aload at_90_0 rfl ?_
  refine aw_getf at_90_1 gf_602 ?_
  refine aw_iload at_90_4 rfl ?_
  refine aw_cV at_90_5 rfl (c_59 (by omega) _ _) (fun _ h => by cases h) rfl (fun S1 => ?_)
  refine aw_aload at_90_8 rfl ?_
  refine aw_getf at_90_9 gf_601 ?_
  refine aw_ic 13 at_90_12 ic_13 ?_
  refine aw_iload at_90_14 rfl ?_
  refine aw_ic (-1) at_90_15 ic_m1 ?_
  refine aw_cI at_90_16 rfl (c_2 (by omega) _ _ _ _) (fun _ h => by cases h) rfl (fun x2 S3 => ?_)
  refine aw_popI at_90_19 ?_
  refine aw_aload at_90_20 rfl ?_
  refine aw_dupA at_90_21 ?_
  refine aw_getf at_90_22 gf_604 ?_
  refine aw_iload at_90_25 rfl ?_
  refine aw_isub at_90_26 ?_
  refine aw_putf at_90_27 (pf_604 _) (fun S4 => ?_)
  exact aw_rV at_90_30 rfl
theorem c_90 {X : amX} {d : Nat} {R : amS} {u : Nat → Int64} (hd : 3 ≤ d) (l1 : Int32) (S : amS) : CW X d 90 [.ref 23, .int l1] (wc R u) S (g_90 l1 S) := cw_up (by omega) (fun d' h => by
  subst h
  exact cw_of rfl (by decide) (Nat.le_of_ble_eq_true rfl) rfl (fun e => t_90 (by omega) l1 S))
/-! 87: ListDesk$Reader.let(II)V -/
theorem at_87_0 : am_at am_m87 0 = some (.aload 0, 1, 0) := rfl
theorem at_87_1 : am_at am_m87 1 = some (.getfield 601, 3, 15) := rfl
theorem at_87_4 : am_at am_m87 4 = some (.iconst 1, 1, 0) := rfl
theorem at_87_5 : am_at am_m87 5 = some (.iconst 0, 1, 0) := rfl
theorem at_87_6 : am_at am_m87 6 = some (.iload 1, 1, 0) := rfl
theorem at_87_7 : am_at am_m87 7 = some (.invokevirtual 2, 3, 61) := rfl
theorem at_87_10 : am_at am_m87 10 = some (.pop, 1, 0) := rfl
theorem at_87_11 : am_at am_m87 11 = some (.aload 0, 1, 0) := rfl
theorem at_87_12 : am_at am_m87 12 = some (.getfield 602, 3, 19) := rfl
theorem at_87_15 : am_at am_m87 15 = some (.getfield 10408, 3, 206) := rfl
theorem at_87_18 : am_at am_m87 18 = some (.istore 3, 1, 0) := rfl
theorem at_87_19 : am_at am_m87 19 = some (.aload 0, 1, 0) := rfl
theorem at_87_20 : am_at am_m87 20 = some (.getfield 604, 3, 47) := rfl
theorem at_87_23 : am_at am_m87 23 = some (.istore 4, 2, 0) := rfl
theorem at_87_25 : am_at am_m87 25 = some (.aload 0, 1, 0) := rfl
theorem at_87_26 : am_at am_m87 26 = some (.iconst 40, 2, 1) := rfl
theorem at_87_28 : am_at am_m87 28 = some (.invokevirtual 81, 3, 162) := rfl
theorem at_87_31 : am_at am_m87 31 = some (.aload 0, 1, 0) := rfl
theorem at_87_32 : am_at am_m87 32 = some (.iload 3, 1, 0) := rfl
theorem at_87_33 : am_at am_m87 33 = some (.iload 2, 1, 0) := rfl
theorem at_87_34 : am_at am_m87 34 = some (.invokevirtual 88, 3, 237) := rfl
theorem at_87_37 : am_at am_m87 37 = some (.iconst 1, 1, 0) := rfl
theorem at_87_38 : am_at am_m87 38 = some (.istore 5, 2, 0) := rfl
theorem at_87_40 : am_at am_m87 40 = some (.iload 5, 2, 0) := rfl
theorem at_87_42 : am_at am_m87 42 = some (.iconst 4, 1, 0) := rfl
theorem at_87_43 : am_at am_m87 43 = some (.if_icmp .ge 70, 3, 0) := rfl
theorem at_87_46 : am_at am_m87 46 = some (.aload 0, 1, 0) := rfl
theorem at_87_47 : am_at am_m87 47 = some (.getfield 600, 3, 9) := rfl
theorem at_87_50 : am_at am_m87 50 = some (.invokevirtual 104, 3, 79) := rfl
theorem at_87_53 : am_at am_m87 53 = some (.iconst 41, 2, 1) := rfl
theorem at_87_55 : am_at am_m87 55 = some (.if_icmp .eq 70, 3, 0) := rfl
theorem at_87_58 : am_at am_m87 58 = some (.aload 0, 1, 0) := rfl
theorem at_87_59 : am_at am_m87 59 = some (.iload 3, 1, 0) := rfl
theorem at_87_60 : am_at am_m87 60 = some (.iload 2, 1, 0) := rfl
theorem at_87_61 : am_at am_m87 61 = some (.invokevirtual 88, 3, 237) := rfl
theorem at_87_64 : am_at am_m87 64 = some (.iinc 5 1, 3, 0) := rfl
theorem at_87_67 : am_at am_m87 67 = some (.goto 40, 3, 0) := rfl
theorem at_87_70 : am_at am_m87 70 = some (.aload 0, 1, 0) := rfl
theorem at_87_71 : am_at am_m87 71 = some (.iconst 41, 2, 1) := rfl
theorem at_87_73 : am_at am_m87 73 = some (.invokevirtual 81, 3, 162) := rfl
theorem at_87_76 : am_at am_m87 76 = some (.aload 0, 1, 0) := rfl
theorem at_87_77 : am_at am_m87 77 = some (.getfield 602, 3, 19) := rfl
theorem at_87_80 : am_at am_m87 80 = some (.getfield 10404, 3, 218) := rfl
theorem at_87_83 : am_at am_m87 83 = some (.istore 5, 2, 0) := rfl
theorem at_87_85 : am_at am_m87 85 = some (.aload 0, 1, 0) := rfl
theorem at_87_86 : am_at am_m87 86 = some (.getfield 602, 3, 19) := rfl
theorem at_87_89 : am_at am_m87 89 = some (.iload 3, 1, 0) := rfl
theorem at_87_90 : am_at am_m87 90 = some (.iload 4, 2, 0) := rfl
theorem at_87_92 : am_at am_m87 92 = some (.aload 0, 1, 0) := rfl
theorem at_87_93 : am_at am_m87 93 = some (.getfield 603, 3, 23) := rfl
theorem at_87_96 : am_at am_m87 96 = some (.getfield 10109, 3, 222) := rfl
theorem at_87_99 : am_at am_m87 99 = some (.invokevirtual 58, 3, 225) := rfl
theorem at_87_102 : am_at am_m87 102 = some (.istore 6, 2, 0) := rfl
theorem at_87_104 : am_at am_m87 104 = some (.iconst 0, 1, 0) := rfl
theorem at_87_105 : am_at am_m87 105 = some (.istore 7, 2, 0) := rfl
theorem at_87_107 : am_at am_m87 107 = some (.iload 7, 2, 0) := rfl
theorem at_87_109 : am_at am_m87 109 = some (.iload 6, 2, 0) := rfl
theorem at_87_111 : am_at am_m87 111 = some (.if_icmp .ge 136, 3, 0) := rfl
theorem at_87_114 : am_at am_m87 114 = some (.aload 0, 1, 0) := rfl
theorem at_87_115 : am_at am_m87 115 = some (.getfield 601, 3, 15) := rfl
theorem at_87_118 : am_at am_m87 118 = some (.iconst 11, 2, 1) := rfl
theorem at_87_120 : am_at am_m87 120 = some (.iload 5, 2, 0) := rfl
theorem at_87_122 : am_at am_m87 122 = some (.iload 7, 2, 0) := rfl
theorem at_87_124 : am_at am_m87 124 = some (.iadd, 1, 0) := rfl
theorem at_87_125 : am_at am_m87 125 = some (.iload 1, 1, 0) := rfl
theorem at_87_126 : am_at am_m87 126 = some (.invokevirtual 2, 3, 61) := rfl
theorem at_87_129 : am_at am_m87 129 = some (.pop, 1, 0) := rfl
theorem at_87_130 : am_at am_m87 130 = some (.iinc 7 1, 3, 0) := rfl
theorem at_87_133 : am_at am_m87 133 = some (.goto 107, 3, 0) := rfl
theorem at_87_136 : am_at am_m87 136 = some (.aload 0, 1, 0) := rfl
theorem at_87_137 : am_at am_m87 137 = some (.iload 2, 1, 0) := rfl
theorem at_87_138 : am_at am_m87 138 = some (.invokevirtual 82, 3, 193) := rfl
theorem at_87_141 : am_at am_m87 141 = some (.aload 0, 1, 0) := rfl
theorem at_87_142 : am_at am_m87 142 = some (.iload 6, 2, 0) := rfl
theorem at_87_144 : am_at am_m87 144 = some (.invokevirtual 90, 3, 240) := rfl
theorem at_87_147 : am_at am_m87 147 = some (.return_, 1, 0) := rfl
def h_87_107 (E : Int32 → amS → amQ) (n : Nat) (H107 : Int32 → Int32 → Int32 → Int32 → Int32 → amS → amQ) (l1 : Int32) (l2 : Int32) (l5 : Int32) (l6 : Int32) (l7 : Int32) (S : amS) : amQ := if l6 ≤ l7 then az_bV (g_82 E n l2 S) fun S1 => az_bV (g_90 l6 S1) fun S2 => some (.inl none, S2) else az_bI (g_2 11 (l5 + l7) l1 S) fun x3 S4 => H107 l1 l2 l5 l6 (l7 + 1) S4
def g_87_107 (E : Int32 → amS → amQ) : Nat → Int32 → Int32 → Int32 → Int32 → Int32 → amS → amQ
  | 0 => fun _ _ _ _ _ _ => none
  | n + 1 => h_87_107 E n (g_87_107 E n)
theorem th_87_107 {X : amX} {d dE e : Nat} {R : amS} {u : Nat → Int64} {E : Int32 → amS → amQ} {H107 : Int32 → Int32 → Int32 → Int32 → Int32 → amS → amQ} (hE : ∀ dep S d', dE ≤ d' → CW X d' 73 [.ref 23, .int dep] (wc R u) S (E dep S)) (hd : dE + 5 ≤ d) (n : Nat) (hH107 : ∀ (l1 : Int32) (l2 : Int32) (l5 : Int32) (l6 : Int32) (l7 : Int32) (S : amS), AW X d am_m87 (wc R u) e 107 [(0, .ref 23), (1, .int l1), (2, .int l2), (5, .int l5), (6, .int l6), (7, .int l7)] [] S (H107 l1 l2 l5 l6 l7 S)) (l1 : Int32) (l2 : Int32) (l5 : Int32) (l6 : Int32) (l7 : Int32)  (S : amS) : AW X d am_m87 (wc R u) e 107 [(0, .ref 23), (1, .int l1), (2, .int l2), (5, .int l5), (6, .int l6), (7, .int l7)] [] S (h_87_107 E n H107 l1 l2 l5 l6 l7 S) := by
  unfold h_87_107
  refine aw_iload at_87_107 rfl ?_
  refine aw_iload at_87_109 rfl ?_
  refine aw_icmp_ge at_87_111 ?_ ?_
  · refine aw_aload at_87_136 rfl ?_
    refine aw_iload at_87_137 rfl ?_
    refine aw_cV at_87_138 rfl (c_82 hE (by omega) n _ _) (fun _ h => by cases h) rfl (fun S1 => ?_)
    refine aw_aload at_87_141 rfl ?_
    refine aw_iload at_87_142 rfl ?_
    refine aw_cV at_87_144 rfl (c_90 (by omega) _ _) (fun _ h => by cases h) rfl (fun S2 => ?_)
    exact aw_rV at_87_147 rfl
  · refine aw_aload at_87_114 rfl ?_
    refine aw_getf at_87_115 gf_601 ?_
    refine aw_ic 11 at_87_118 ic_11 ?_
    refine aw_iload at_87_120 rfl ?_
    refine aw_iload at_87_122 rfl ?_
    refine aw_iadd at_87_124 ?_
    refine aw_iload at_87_125 rfl ?_
    refine aw_cI at_87_126 rfl (c_2 (by omega) _ _ _ _) (fun _ h => by cases h) rfl (fun x3 S4 => ?_)
    refine aw_popI at_87_129 ?_
    refine aw_iinc at_87_130 rfl (by decide) rfl ic_1 rfl ?_
    refine aw_goto at_87_133 ?_
    exact aw_sub (al_cons rfl (al_cons rfl (al_cons rfl (al_cons rfl (al_cons rfl (al_cons rfl al_nil)))))) (hH107 l1 l2 l5 l6 (l7 + 1) S4)
theorem t_87_107 {X : amX} {d dE e : Nat} {R : amS} {u : Nat → Int64} {E : Int32 → amS → amQ} (hE : ∀ dep S d', dE ≤ d' → CW X d' 73 [.ref 23, .int dep] (wc R u) S (E dep S)) (hd : dE + 5 ≤ d) : ∀ (n : Nat)  (l1 : Int32) (l2 : Int32) (l5 : Int32) (l6 : Int32) (l7 : Int32) (S : amS), AW X d am_m87 (wc R u) e 107 [(0, .ref 23), (1, .int l1), (2, .int l2), (5, .int l5), (6, .int l6), (7, .int l7)] [] S (g_87_107 E n l1 l2 l5 l6 l7 S)
  | 0, _, _, _, _, _, _ => aw_none
  | n + 1, l1, l2, l5, l6, l7, S => th_87_107 hE hd n (t_87_107 hE hd n) l1 l2 l5 l6 l7 S
def g_87_70 (E : Int32 → amS → amQ) (n : Nat) (l1 : Int32) (l2 : Int32) (l3 : Int32) (l4 : Int32) (S : amS) : amQ := az_bV (g_81 n 41 S) fun S1 => az_st (S1.1 5 4) fun x2 => az_bI (g_58 n l3 l4 (S1.1 12 9) S1) fun x3 S4 => g_87_107 E n l1 l2 x2 x3 0 S4
theorem t_87_70 {X : amX} {d dE e : Nat} {R : amS} {u : Nat → Int64} {E : Int32 → amS → amQ} (hE : ∀ dep S d', dE ≤ d' → CW X d' 73 [.ref 23, .int dep] (wc R u) S (E dep S)) (hd : dE + 5 ≤ d) (n : Nat)  (l1 : Int32) (l2 : Int32) (l3 : Int32) (l4 : Int32) (S : amS) : AW X d am_m87 (wc R u) e 70 [(0, .ref 23), (1, .int l1), (2, .int l2), (3, .int l3), (4, .int l4)] [] S (g_87_70 E n l1 l2 l3 l4 S) := by
  unfold g_87_70
  refine aw_aload at_87_70 rfl ?_
  refine aw_ic 41 at_87_71 ic_41 ?_
  refine aw_cV at_87_73 rfl (c_81 (by omega) n _ _) (fun _ h => by cases h) rfl (fun S1 => ?_)
  refine aw_aload at_87_76 rfl ?_
  refine aw_getf at_87_77 gf_602 ?_
  refine aw_getf at_87_80 gf_10404 ?_
  refine aw_nameI (fun x2 => ?_)
  refine aw_istore at_87_83 (by decide) rfl rfl ?_
  refine aw_aload at_87_85 rfl ?_
  refine aw_getf at_87_86 gf_602 ?_
  refine aw_iload at_87_89 rfl ?_
  refine aw_iload at_87_90 rfl ?_
  refine aw_aload at_87_92 rfl ?_
  refine aw_getf at_87_93 gf_603 ?_
  refine aw_getf at_87_96 gf_10109 ?_
  refine aw_cI at_87_99 rfl (c_58 (by omega) n _ _ _ _) (fun _ h => by cases h) rfl (fun x3 S4 => ?_)
  refine aw_istore at_87_102 (by decide) rfl rfl ?_
  refine aw_ic 0 at_87_104 ic_0 ?_
  refine aw_istore at_87_105 (by decide) rfl rfl ?_
  exact aw_sub (al_cons rfl (al_cons rfl (al_cons rfl (al_cons rfl (al_cons rfl (al_cons rfl al_nil)))))) (t_87_107 hE (by omega) n l1 l2 x2 x3 0 S4)
def h_87_40 (E : Int32 → amS → amQ) (n : Nat) (H40 : Int32 → Int32 → Int32 → Int32 → Int32 → amS → amQ) (l1 : Int32) (l2 : Int32) (l3 : Int32) (l4 : Int32) (l5 : Int32) (S : amS) : amQ := if 4 ≤ l5 then g_87_70 E n l1 l2 l3 l4 S else az_bI (g_104 n S) fun x1 S2 => if x1 = 41 then g_87_70 E n l1 l2 l3 l4 S2 else az_bV (g_88 E n l3 l2 S2) fun S3 => H40 l1 l2 l3 l4 (l5 + 1) S3
def g_87_40 (E : Int32 → amS → amQ) : Nat → Int32 → Int32 → Int32 → Int32 → Int32 → amS → amQ
  | 0 => fun _ _ _ _ _ _ => none
  | n + 1 => h_87_40 E n (g_87_40 E n)
theorem th_87_40 {X : amX} {d dE e : Nat} {R : amS} {u : Nat → Int64} {E : Int32 → amS → amQ} {H40 : Int32 → Int32 → Int32 → Int32 → Int32 → amS → amQ} (hE : ∀ dep S d', dE ≤ d' → CW X d' 73 [.ref 23, .int dep] (wc R u) S (E dep S)) (hd : dE + 5 ≤ d) (n : Nat) (hH40 : ∀ (l1 : Int32) (l2 : Int32) (l3 : Int32) (l4 : Int32) (l5 : Int32) (S : amS), AW X d am_m87 (wc R u) e 40 [(0, .ref 23), (1, .int l1), (2, .int l2), (3, .int l3), (4, .int l4), (5, .int l5)] [] S (H40 l1 l2 l3 l4 l5 S)) (l1 : Int32) (l2 : Int32) (l3 : Int32) (l4 : Int32) (l5 : Int32)  (S : amS) : AW X d am_m87 (wc R u) e 40 [(0, .ref 23), (1, .int l1), (2, .int l2), (3, .int l3), (4, .int l4), (5, .int l5)] [] S (h_87_40 E n H40 l1 l2 l3 l4 l5 S) := by
  unfold h_87_40
  refine aw_iload at_87_40 rfl ?_
  refine aw_ic 4 at_87_42 ic_4 ?_
  refine aw_icmp_ge at_87_43 ?_ ?_
  · exact aw_sub (al_cons rfl (al_cons rfl (al_cons rfl (al_cons rfl (al_cons rfl al_nil))))) (t_87_70 hE (by omega) n l1 l2 l3 l4 S)
  · refine aw_aload at_87_46 rfl ?_
    refine aw_getf at_87_47 gf_600 ?_
    refine aw_cI at_87_50 rfl (c_104 (by omega) n _) (fun _ h => by cases h) rfl (fun x1 S2 => ?_)
    refine aw_ic 41 at_87_53 ic_41 ?_
    refine aw_icmp_eq at_87_55 ?_ ?_
    · exact aw_sub (al_cons rfl (al_cons rfl (al_cons rfl (al_cons rfl (al_cons rfl al_nil))))) (t_87_70 hE (by omega) n l1 l2 l3 l4 S2)
    · refine aw_aload at_87_58 rfl ?_
      refine aw_iload at_87_59 rfl ?_
      refine aw_iload at_87_60 rfl ?_
      refine aw_cV at_87_61 rfl (c_88 hE (by omega) n _ _ _) (fun _ h => by cases h) rfl (fun S3 => ?_)
      refine aw_iinc at_87_64 rfl (by decide) rfl ic_1 rfl ?_
      refine aw_goto at_87_67 ?_
      exact aw_sub (al_cons rfl (al_cons rfl (al_cons rfl (al_cons rfl (al_cons rfl (al_cons rfl al_nil)))))) (hH40 l1 l2 l3 l4 (l5 + 1) S3)
theorem t_87_40 {X : amX} {d dE e : Nat} {R : amS} {u : Nat → Int64} {E : Int32 → amS → amQ} (hE : ∀ dep S d', dE ≤ d' → CW X d' 73 [.ref 23, .int dep] (wc R u) S (E dep S)) (hd : dE + 5 ≤ d) : ∀ (n : Nat)  (l1 : Int32) (l2 : Int32) (l3 : Int32) (l4 : Int32) (l5 : Int32) (S : amS), AW X d am_m87 (wc R u) e 40 [(0, .ref 23), (1, .int l1), (2, .int l2), (3, .int l3), (4, .int l4), (5, .int l5)] [] S (g_87_40 E n l1 l2 l3 l4 l5 S)
  | 0, _, _, _, _, _, _ => aw_none
  | n + 1, l1, l2, l3, l4, l5, S => th_87_40 hE hd n (t_87_40 hE hd n) l1 l2 l3 l4 l5 S
def g_87 (E : Int32 → amS → amQ) (n : Nat) (l1 : Int32) (l2 : Int32) (S : amS) : amQ := az_bI (g_2 1 0 l1 S) fun x1 S2 => az_st (S2.1 5 8) fun x3 => az_st (S2.1 23 4) fun x4 => az_bV (g_81 n 40 S2) fun S5 => az_bV (g_88 E n x3 l2 S5) fun S6 => g_87_40 E n l1 l2 x3 x4 1 S6
theorem t_87 {X : amX} {d dE e : Nat} {R : amS} {u : Nat → Int64} {E : Int32 → amS → amQ} (hE : ∀ dep S d', dE ≤ d' → CW X d' 73 [.ref 23, .int dep] (wc R u) S (E dep S)) (hd : dE + 5 ≤ d) (n : Nat)  (l1 : Int32) (l2 : Int32) (S : amS) : AW X d am_m87 (wc R u) e 0 [(0, .ref 23), (1, .int l1), (2, .int l2)] [] S (g_87 E n l1 l2 S) := by
  unfold g_87
  refine aw_aload at_87_0 rfl ?_
  refine aw_getf at_87_1 gf_601 ?_
  refine aw_ic 1 at_87_4 ic_1 ?_
  refine aw_ic 0 at_87_5 ic_0 ?_
  refine aw_iload at_87_6 rfl ?_
  refine aw_cI at_87_7 rfl (c_2 (by omega) _ _ _ _) (fun _ h => by cases h) rfl (fun x1 S2 => ?_)
  refine aw_popI at_87_10 ?_
  refine aw_aload at_87_11 rfl ?_
  refine aw_getf at_87_12 gf_602 ?_
  refine aw_getf at_87_15 gf_10408 ?_
  refine aw_nameI (fun x3 => ?_)
  refine aw_istore at_87_18 (by decide) rfl rfl ?_
  refine aw_aload at_87_19 rfl ?_
  refine aw_getf at_87_20 gf_604 ?_
  refine aw_nameI (fun x4 => ?_)
  refine aw_istore at_87_23 (by decide) rfl rfl ?_
  refine aw_aload at_87_25 rfl ?_
  refine aw_ic 40 at_87_26 ic_40 ?_
  refine aw_cV at_87_28 rfl (c_81 (by omega) n _ _) (fun _ h => by cases h) rfl (fun S5 => ?_)
  refine aw_aload at_87_31 rfl ?_
  refine aw_iload at_87_32 rfl ?_
  refine aw_iload at_87_33 rfl ?_
  refine aw_cV at_87_34 rfl (c_88 hE (by omega) n _ _ _) (fun _ h => by cases h) rfl (fun S6 => ?_)
  refine aw_ic 1 at_87_37 ic_1 ?_
  refine aw_istore at_87_38 (by decide) rfl rfl ?_
  exact aw_sub (al_cons rfl (al_cons rfl (al_cons rfl (al_cons rfl (al_cons rfl (al_cons rfl al_nil)))))) (t_87_40 hE (by omega) n l1 l2 x3 x4 1 S6)
theorem c_87 {X : amX} {d dE : Nat} {R : amS} {u : Nat → Int64} {E : Int32 → amS → amQ} (hE : ∀ dep S d', dE ≤ d' → CW X d' 73 [.ref 23, .int dep] (wc R u) S (E dep S)) (hd : dE + 6 ≤ d) (n : Nat) (l1 : Int32) (l2 : Int32) (S : amS) : CW X d 87 [.ref 23, .int l1, .int l2] (wc R u) S (g_87 E n l1 l2 S) := cw_up (by omega) (fun d' h => by
  subst h
  exact cw_of rfl (by decide) (Nat.le_of_ble_eq_true rfl) rfl (fun e => t_87 hE (by omega) n l1 l2 S))
/-! 89: ListDesk$Reader.letrec(II)V -/
theorem at_89_0 : am_at am_m89 0 = some (.aload 0, 1, 0) := rfl
theorem at_89_1 : am_at am_m89 1 = some (.iconst 40, 2, 1) := rfl
theorem at_89_3 : am_at am_m89 3 = some (.invokevirtual 81, 3, 162) := rfl
theorem at_89_6 : am_at am_m89 6 = some (.aload 0, 1, 0) := rfl
theorem at_89_7 : am_at am_m89 7 = some (.iconst 40, 2, 1) := rfl
theorem at_89_9 : am_at am_m89 9 = some (.invokevirtual 81, 3, 162) := rfl
theorem at_89_12 : am_at am_m89 12 = some (.aload 0, 1, 0) := rfl
theorem at_89_13 : am_at am_m89 13 = some (.getfield 602, 3, 19) := rfl
theorem at_89_16 : am_at am_m89 16 = some (.getfield 10408, 3, 206) := rfl
theorem at_89_19 : am_at am_m89 19 = some (.istore 3, 1, 0) := rfl
theorem at_89_20 : am_at am_m89 20 = some (.aload 0, 1, 0) := rfl
theorem at_89_21 : am_at am_m89 21 = some (.iload 3, 1, 0) := rfl
theorem at_89_22 : am_at am_m89 22 = some (.invokevirtual 84, 3, 209) := rfl
theorem at_89_25 : am_at am_m89 25 = some (.aload 0, 1, 0) := rfl
theorem at_89_26 : am_at am_m89 26 = some (.getfield 602, 3, 19) := rfl
theorem at_89_29 : am_at am_m89 29 = some (.getfield 10404, 3, 218) := rfl
theorem at_89_32 : am_at am_m89 32 = some (.istore 4, 2, 0) := rfl
theorem at_89_34 : am_at am_m89 34 = some (.aload 0, 1, 0) := rfl
theorem at_89_35 : am_at am_m89 35 = some (.getfield 602, 3, 19) := rfl
theorem at_89_38 : am_at am_m89 38 = some (.iload 3, 1, 0) := rfl
theorem at_89_39 : am_at am_m89 39 = some (.aload 0, 1, 0) := rfl
theorem at_89_40 : am_at am_m89 40 = some (.getfield 604, 3, 47) := rfl
theorem at_89_43 : am_at am_m89 43 = some (.aload 0, 1, 0) := rfl
theorem at_89_44 : am_at am_m89 44 = some (.getfield 603, 3, 23) := rfl
theorem at_89_47 : am_at am_m89 47 = some (.getfield 10109, 3, 222) := rfl
theorem at_89_50 : am_at am_m89 50 = some (.invokevirtual 58, 3, 225) := rfl
theorem at_89_53 : am_at am_m89 53 = some (.pop, 1, 0) := rfl
theorem at_89_54 : am_at am_m89 54 = some (.aload 0, 1, 0) := rfl
theorem at_89_55 : am_at am_m89 55 = some (.iconst 6, 2, 1) := rfl
theorem at_89_57 : am_at am_m89 57 = some (.iconst 0, 1, 0) := rfl
theorem at_89_58 : am_at am_m89 58 = some (.iload 1, 1, 0) := rfl
theorem at_89_59 : am_at am_m89 59 = some (.invokevirtual 74, 3, 92) := rfl
theorem at_89_62 : am_at am_m89 62 = some (.aload 0, 1, 0) := rfl
theorem at_89_63 : am_at am_m89 63 = some (.getfield 600, 3, 9) := rfl
theorem at_89_66 : am_at am_m89 66 = some (.invokevirtual 103, 3, 75) := rfl
theorem at_89_69 : am_at am_m89 69 = some (.istore 5, 2, 0) := rfl
theorem at_89_71 : am_at am_m89 71 = some (.aload 0, 1, 0) := rfl
theorem at_89_72 : am_at am_m89 72 = some (.getfield 601, 3, 15) := rfl
theorem at_89_75 : am_at am_m89 75 = some (.getfield 10003, 3, 215) := rfl
theorem at_89_78 : am_at am_m89 78 = some (.istore 6, 2, 0) := rfl
theorem at_89_80 : am_at am_m89 80 = some (.aload 0, 1, 0) := rfl
theorem at_89_81 : am_at am_m89 81 = some (.iload 2, 1, 0) := rfl
theorem at_89_82 : am_at am_m89 82 = some (.invokevirtual 73, 3, 50) := rfl
theorem at_89_85 : am_at am_m89 85 = some (.aload 0, 1, 0) := rfl
theorem at_89_86 : am_at am_m89 86 = some (.getfield 601, 3, 15) := rfl
theorem at_89_89 : am_at am_m89 89 = some (.iload 6, 2, 0) := rfl
theorem at_89_91 : am_at am_m89 91 = some (.invokevirtual 4, 3, 241) := rfl
theorem at_89_94 : am_at am_m89 94 = some (.iconst 5, 1, 0) := rfl
theorem at_89_95 : am_at am_m89 95 = some (.if_icmp .eq 104, 3, 0) := rfl
theorem at_89_98 : am_at am_m89 98 = some (.aload 0, 1, 0) := rfl
theorem at_89_99 : am_at am_m89 99 = some (.iload 5, 2, 0) := rfl
theorem at_89_101 : am_at am_m89 101 = some (.invokevirtual 72, 3, 119) := rfl
theorem at_89_104 : am_at am_m89 104 = some (.aload 0, 1, 0) := rfl
theorem at_89_105 : am_at am_m89 105 = some (.iconst 41, 2, 1) := rfl
theorem at_89_107 : am_at am_m89 107 = some (.invokevirtual 81, 3, 162) := rfl
theorem at_89_110 : am_at am_m89 110 = some (.aload 0, 1, 0) := rfl
theorem at_89_111 : am_at am_m89 111 = some (.iconst 41, 2, 1) := rfl
theorem at_89_113 : am_at am_m89 113 = some (.invokevirtual 81, 3, 162) := rfl
theorem at_89_116 : am_at am_m89 116 = some (.aload 0, 1, 0) := rfl
theorem at_89_117 : am_at am_m89 117 = some (.getfield 601, 3, 15) := rfl
theorem at_89_120 : am_at am_m89 120 = some (.iconst 12, 2, 1) := rfl
theorem at_89_122 : am_at am_m89 122 = some (.aload 0, 1, 0) := rfl
theorem at_89_123 : am_at am_m89 123 = some (.getfield 602, 3, 19) := rfl
theorem at_89_126 : am_at am_m89 126 = some (.iload 4, 2, 0) := rfl
theorem at_89_128 : am_at am_m89 128 = some (.invokevirtual 61, 3, 128) := rfl
theorem at_89_131 : am_at am_m89 131 = some (.iload 1, 1, 0) := rfl
theorem at_89_132 : am_at am_m89 132 = some (.invokevirtual 2, 3, 61) := rfl
theorem at_89_135 : am_at am_m89 135 = some (.pop, 1, 0) := rfl
theorem at_89_136 : am_at am_m89 136 = some (.aload 0, 1, 0) := rfl
theorem at_89_137 : am_at am_m89 137 = some (.invokevirtual 83, 3, 58) := rfl
theorem at_89_140 : am_at am_m89 140 = some (.aload 0, 1, 0) := rfl
theorem at_89_141 : am_at am_m89 141 = some (.iload 2, 1, 0) := rfl
theorem at_89_142 : am_at am_m89 142 = some (.invokevirtual 82, 3, 193) := rfl
theorem at_89_145 : am_at am_m89 145 = some (.aload 0, 1, 0) := rfl
theorem at_89_146 : am_at am_m89 146 = some (.iconst 1, 1, 0) := rfl
theorem at_89_147 : am_at am_m89 147 = some (.invokevirtual 90, 3, 240) := rfl
theorem at_89_150 : am_at am_m89 150 = some (.return_, 1, 0) := rfl
def g_89_104 (E : Int32 → amS → amQ) (n : Nat) (l1 : Int32) (l2 : Int32) (l4 : Int32) (S : amS) : amQ := az_bV (g_81 n 41 S) fun S1 => az_bV (g_81 n 41 S1) fun S2 => az_bI (g_61 l4 S2) fun x3 S4 => az_bI (g_2 12 x3 l1 S4) fun x5 S6 => az_bV (g_83 S6) fun S7 => az_bV (g_82 E n l2 S7) fun S8 => az_bV (g_90 1 S8) fun S9 => some (.inl none, S9)
theorem t_89_104 {X : amX} {d dE e : Nat} {R : amS} {u : Nat → Int64} {E : Int32 → amS → amQ} (hE : ∀ dep S d', dE ≤ d' → CW X d' 73 [.ref 23, .int dep] (wc R u) S (E dep S)) (hd : dE + 4 ≤ d) (n : Nat)  (l1 : Int32) (l2 : Int32) (l4 : Int32) (S : amS) : AW X d am_m89 (wc R u) e 104 [(0, .ref 23), (1, .int l1), (2, .int l2), (4, .int l4)] [] S (g_89_104 E n l1 l2 l4 S) := by
  unfold g_89_104
  refine aw_aload at_89_104 rfl ?_
  refine aw_ic 41 at_89_105 ic_41 ?_
  refine aw_cV at_89_107 rfl (c_81 (by omega) n _ _) (fun _ h => by cases h) rfl (fun S1 => ?_)
  refine aw_aload at_89_110 rfl ?_
  refine aw_ic 41 at_89_111 ic_41 ?_
  refine aw_cV at_89_113 rfl (c_81 (by omega) n _ _) (fun _ h => by cases h) rfl (fun S2 => ?_)
  refine aw_aload at_89_116 rfl ?_
  refine aw_getf at_89_117 gf_601 ?_
  refine aw_ic 12 at_89_120 ic_12 ?_
  refine aw_aload at_89_122 rfl ?_
  refine aw_getf at_89_123 gf_602 ?_
  refine aw_iload at_89_126 rfl ?_
  refine aw_cI at_89_128 rfl (c_61 (by omega) _ _) (fun _ h => by cases h) rfl (fun x3 S4 => ?_)
  refine aw_iload at_89_131 rfl ?_
  refine aw_cI at_89_132 rfl (c_2 (by omega) _ _ _ _) (fun _ h => by cases h) rfl (fun x5 S6 => ?_)
  refine aw_popI at_89_135 ?_
  refine aw_aload at_89_136 rfl ?_
  refine aw_cV at_89_137 rfl (c_83 (by omega) _) (fun _ h => by cases h) rfl (fun S7 => ?_)
  refine aw_aload at_89_140 rfl ?_
  refine aw_iload at_89_141 rfl ?_
  refine aw_cV at_89_142 rfl (c_82 hE (by omega) n _ _) (fun _ h => by cases h) rfl (fun S8 => ?_)
  refine aw_aload at_89_145 rfl ?_
  refine aw_ic 1 at_89_146 ic_1 ?_
  refine aw_cV at_89_147 rfl (c_90 (by omega) _ _) (fun _ h => by cases h) rfl (fun S9 => ?_)
  exact aw_rV at_89_150 rfl
def g_89 (E : Int32 → amS → amQ) (n : Nat) (l1 : Int32) (l2 : Int32) (S : amS) : amQ := az_bV (g_81 n 40 S) fun S1 => az_bV (g_81 n 40 S1) fun S2 => az_st (S2.1 5 8) fun x3 => az_bV (g_84 n x3 S2) fun S4 => az_st (S4.1 5 4) fun x5 => az_bI (g_58 n x3 (S4.1 23 4) (S4.1 12 9) S4) fun x6 S7 => az_bV (g_74 6 0 l1 S7) fun S8 => az_bI (g_103 n S8) fun x9 S10 => az_st (S10.1 1 3) fun x11 => az_bV (E l2 S10) fun S12 => az_bI (g_4 x11 S12) fun x13 S14 => if x13 = 5 then g_89_104 E n l1 l2 x5 S14 else az_bV (g_72 x9 S14) fun S15 => g_89_104 E n l1 l2 x5 S15
theorem t_89 {X : amX} {d dE e : Nat} {R : amS} {u : Nat → Int64} {E : Int32 → amS → amQ} (hE : ∀ dep S d', dE ≤ d' → CW X d' 73 [.ref 23, .int dep] (wc R u) S (E dep S)) (hd : dE + 4 ≤ d) (n : Nat)  (l1 : Int32) (l2 : Int32) (S : amS) : AW X d am_m89 (wc R u) e 0 [(0, .ref 23), (1, .int l1), (2, .int l2)] [] S (g_89 E n l1 l2 S) := by
  unfold g_89
  refine aw_aload at_89_0 rfl ?_
  refine aw_ic 40 at_89_1 ic_40 ?_
  refine aw_cV at_89_3 rfl (c_81 (by omega) n _ _) (fun _ h => by cases h) rfl (fun S1 => ?_)
  refine aw_aload at_89_6 rfl ?_
  refine aw_ic 40 at_89_7 ic_40 ?_
  refine aw_cV at_89_9 rfl (c_81 (by omega) n _ _) (fun _ h => by cases h) rfl (fun S2 => ?_)
  refine aw_aload at_89_12 rfl ?_
  refine aw_getf at_89_13 gf_602 ?_
  refine aw_getf at_89_16 gf_10408 ?_
  refine aw_nameI (fun x3 => ?_)
  refine aw_istore at_89_19 (by decide) rfl rfl ?_
  refine aw_aload at_89_20 rfl ?_
  refine aw_iload at_89_21 rfl ?_
  refine aw_cV at_89_22 rfl (c_84 (by omega) n _ _) (fun _ h => by cases h) rfl (fun S4 => ?_)
  refine aw_aload at_89_25 rfl ?_
  refine aw_getf at_89_26 gf_602 ?_
  refine aw_getf at_89_29 gf_10404 ?_
  refine aw_nameI (fun x5 => ?_)
  refine aw_istore at_89_32 (by decide) rfl rfl ?_
  refine aw_aload at_89_34 rfl ?_
  refine aw_getf at_89_35 gf_602 ?_
  refine aw_iload at_89_38 rfl ?_
  refine aw_aload at_89_39 rfl ?_
  refine aw_getf at_89_40 gf_604 ?_
  refine aw_aload at_89_43 rfl ?_
  refine aw_getf at_89_44 gf_603 ?_
  refine aw_getf at_89_47 gf_10109 ?_
  refine aw_cI at_89_50 rfl (c_58 (by omega) n _ _ _ _) (fun _ h => by cases h) rfl (fun x6 S7 => ?_)
  refine aw_popI at_89_53 ?_
  refine aw_aload at_89_54 rfl ?_
  refine aw_ic 6 at_89_55 ic_6 ?_
  refine aw_ic 0 at_89_57 ic_0 ?_
  refine aw_iload at_89_58 rfl ?_
  refine aw_cV at_89_59 rfl (c_74 (by omega) _ _ _ _) (fun _ h => by cases h) rfl (fun S8 => ?_)
  refine aw_aload at_89_62 rfl ?_
  refine aw_getf at_89_63 gf_600 ?_
  refine aw_cI at_89_66 rfl (c_103 (by omega) n _) (fun _ h => by cases h) rfl (fun x9 S10 => ?_)
  refine aw_istore at_89_69 (by decide) rfl rfl ?_
  refine aw_aload at_89_71 rfl ?_
  refine aw_getf at_89_72 gf_601 ?_
  refine aw_getf at_89_75 gf_10003 ?_
  refine aw_nameI (fun x11 => ?_)
  refine aw_istore at_89_78 (by decide) rfl rfl ?_
  refine aw_aload at_89_80 rfl ?_
  refine aw_iload at_89_81 rfl ?_
  refine aw_cV at_89_82 rfl (hE _ _ _ (by omega)) (fun _ h => by cases h) rfl (fun S12 => ?_)
  refine aw_aload at_89_85 rfl ?_
  refine aw_getf at_89_86 gf_601 ?_
  refine aw_iload at_89_89 rfl ?_
  refine aw_cI at_89_91 rfl (c_4 (by omega) _ _) (fun _ h => by cases h) rfl (fun x13 S14 => ?_)
  refine aw_ic 5 at_89_94 ic_5 ?_
  refine aw_icmp_eq at_89_95 ?_ ?_
  · exact aw_sub (al_cons rfl (al_cons rfl (al_cons rfl (al_cons rfl al_nil)))) (t_89_104 hE (by omega) n l1 l2 x5 S14)
  · refine aw_aload at_89_98 rfl ?_
    refine aw_iload at_89_99 rfl ?_
    refine aw_cV at_89_101 rfl (c_72 (by omega) _ _) (fun _ h => by cases h) rfl (fun S15 => ?_)
    exact aw_sub (al_cons rfl (al_cons rfl (al_cons rfl (al_cons rfl al_nil)))) (t_89_104 hE (by omega) n l1 l2 x5 S15)
theorem c_89 {X : amX} {d dE : Nat} {R : amS} {u : Nat → Int64} {E : Int32 → amS → amQ} (hE : ∀ dep S d', dE ≤ d' → CW X d' 73 [.ref 23, .int dep] (wc R u) S (E dep S)) (hd : dE + 5 ≤ d) (n : Nat) (l1 : Int32) (l2 : Int32) (S : amS) : CW X d 89 [.ref 23, .int l1, .int l2] (wc R u) S (g_89 E n l1 l2 S) := cw_up (by omega) (fun d' h => by
  subst h
  exact cw_of rfl (by decide) (Nat.le_of_ble_eq_true rfl) rfl (fun e => t_89 hE (by omega) n l1 l2 S))
/-! 91: ListDesk$Reader.change(II)V -/
theorem at_91_0 : am_at am_m91 0 = some (.aload 0, 1, 0) := rfl
theorem at_91_1 : am_at am_m91 1 = some (.getfield 601, 3, 15) := rfl
theorem at_91_4 : am_at am_m91 4 = some (.iconst 1, 1, 0) := rfl
theorem at_91_5 : am_at am_m91 5 = some (.iconst 0, 1, 0) := rfl
theorem at_91_6 : am_at am_m91 6 = some (.iload 1, 1, 0) := rfl
theorem at_91_7 : am_at am_m91 7 = some (.invokevirtual 2, 3, 61) := rfl
theorem at_91_10 : am_at am_m91 10 = some (.pop, 1, 0) := rfl
theorem at_91_11 : am_at am_m91 11 = some (.aload 0, 1, 0) := rfl
theorem at_91_12 : am_at am_m91 12 = some (.invokevirtual 77, 3, 122) := rfl
theorem at_91_15 : am_at am_m91 15 = some (.istore 3, 1, 0) := rfl
theorem at_91_16 : am_at am_m91 16 = some (.aload 0, 1, 0) := rfl
theorem at_91_17 : am_at am_m91 17 = some (.getfield 602, 3, 19) := rfl
theorem at_91_20 : am_at am_m91 20 = some (.iload 3, 1, 0) := rfl
theorem at_91_21 : am_at am_m91 21 = some (.iconst 1, 1, 0) := rfl
theorem at_91_22 : am_at am_m91 22 = some (.invokevirtual 64, 3, 244) := rfl
theorem at_91_25 : am_at am_m91 25 = some (.aload 0, 1, 0) := rfl
theorem at_91_26 : am_at am_m91 26 = some (.getfield 603, 3, 23) := rfl
theorem at_91_29 : am_at am_m91 29 = some (.iload 3, 1, 0) := rfl
theorem at_91_30 : am_at am_m91 30 = some (.aload 0, 1, 0) := rfl
theorem at_91_31 : am_at am_m91 31 = some (.getfield 602, 3, 19) := rfl
theorem at_91_34 : am_at am_m91 34 = some (.iload 3, 1, 0) := rfl
theorem at_91_35 : am_at am_m91 35 = some (.invokevirtual 62, 3, 125) := rfl
theorem at_91_38 : am_at am_m91 38 = some (.aload 0, 1, 0) := rfl
theorem at_91_39 : am_at am_m91 39 = some (.getfield 602, 3, 19) := rfl
theorem at_91_42 : am_at am_m91 42 = some (.iload 3, 1, 0) := rfl
theorem at_91_43 : am_at am_m91 43 = some (.invokevirtual 61, 3, 128) := rfl
theorem at_91_46 : am_at am_m91 46 = some (.invokevirtual 11, 3, 131) := rfl
theorem at_91_49 : am_at am_m91 49 = some (.istore 4, 2, 0) := rfl
theorem at_91_51 : am_at am_m91 51 = some (.aload 0, 1, 0) := rfl
theorem at_91_52 : am_at am_m91 52 = some (.iload 2, 1, 0) := rfl
theorem at_91_53 : am_at am_m91 53 = some (.invokevirtual 73, 3, 50) := rfl
theorem at_91_56 : am_at am_m91 56 = some (.aload 0, 1, 0) := rfl
theorem at_91_57 : am_at am_m91 57 = some (.getfield 601, 3, 15) := rfl
theorem at_91_60 : am_at am_m91 60 = some (.iconst 12, 2, 1) := rfl
theorem at_91_62 : am_at am_m91 62 = some (.iload 4, 2, 0) := rfl
theorem at_91_64 : am_at am_m91 64 = some (.iload 1, 1, 0) := rfl
theorem at_91_65 : am_at am_m91 65 = some (.invokevirtual 2, 3, 61) := rfl
theorem at_91_68 : am_at am_m91 68 = some (.pop, 1, 0) := rfl
theorem at_91_69 : am_at am_m91 69 = some (.return_, 1, 0) := rfl
def g_91 (E : Int32 → amS → amQ) (n : Nat) (l1 : Int32) (l2 : Int32) (S : amS) : amQ := az_bI (g_2 1 0 l1 S) fun x1 S2 => az_bI (g_77 n S2) fun x3 S4 => az_bV (g_64 x3 1 S4) fun S5 => az_bI (g_62 x3 S5) fun x6 S7 => az_bI (g_61 x3 S7) fun x8 S9 => az_bI (g_11 n x3 x6 x8 S9) fun x10 S11 => az_bV (E l2 S11) fun S12 => az_bI (g_2 12 x10 l1 S12) fun x13 S14 => some (.inl none, S14)
theorem t_91 {X : amX} {d dE e : Nat} {R : amS} {u : Nat → Int64} {E : Int32 → amS → amQ} (hE : ∀ dep S d', dE ≤ d' → CW X d' 73 [.ref 23, .int dep] (wc R u) S (E dep S)) (hd : dE + 3 ≤ d) (n : Nat)  (l1 : Int32) (l2 : Int32) (S : amS) : AW X d am_m91 (wc R u) e 0 [(0, .ref 23), (1, .int l1), (2, .int l2)] [] S (g_91 E n l1 l2 S) := by
  unfold g_91
  refine aw_aload at_91_0 rfl ?_
  refine aw_getf at_91_1 gf_601 ?_
  refine aw_ic 1 at_91_4 ic_1 ?_
  refine aw_ic 0 at_91_5 ic_0 ?_
  refine aw_iload at_91_6 rfl ?_
  refine aw_cI at_91_7 rfl (c_2 (by omega) _ _ _ _) (fun _ h => by cases h) rfl (fun x1 S2 => ?_)
  refine aw_popI at_91_10 ?_
  refine aw_aload at_91_11 rfl ?_
  refine aw_cI at_91_12 rfl (c_77 (by omega) n _) (fun _ h => by cases h) rfl (fun x3 S4 => ?_)
  refine aw_istore at_91_15 (by decide) rfl rfl ?_
  refine aw_aload at_91_16 rfl ?_
  refine aw_getf at_91_17 gf_602 ?_
  refine aw_iload at_91_20 rfl ?_
  refine aw_ic 1 at_91_21 ic_1 ?_
  refine aw_cV at_91_22 rfl (c_64 (by omega) _ _ _) (fun _ h => by cases h) rfl (fun S5 => ?_)
  refine aw_aload at_91_25 rfl ?_
  refine aw_getf at_91_26 gf_603 ?_
  refine aw_iload at_91_29 rfl ?_
  refine aw_aload at_91_30 rfl ?_
  refine aw_getf at_91_31 gf_602 ?_
  refine aw_iload at_91_34 rfl ?_
  refine aw_cI at_91_35 rfl (c_62 (by omega) _ _) (fun _ h => by cases h) rfl (fun x6 S7 => ?_)
  refine aw_aload at_91_38 rfl ?_
  refine aw_getf at_91_39 gf_602 ?_
  refine aw_iload at_91_42 rfl ?_
  refine aw_cI at_91_43 rfl (c_61 (by omega) _ _) (fun _ h => by cases h) rfl (fun x8 S9 => ?_)
  refine aw_cI at_91_46 rfl (c_11 (by omega) n _ _ _ _) (fun _ h => by cases h) rfl (fun x10 S11 => ?_)
  refine aw_istore at_91_49 (by decide) rfl rfl ?_
  refine aw_aload at_91_51 rfl ?_
  refine aw_iload at_91_52 rfl ?_
  refine aw_cV at_91_53 rfl (hE _ _ _ (by omega)) (fun _ h => by cases h) rfl (fun S12 => ?_)
  refine aw_aload at_91_56 rfl ?_
  refine aw_getf at_91_57 gf_601 ?_
  refine aw_ic 12 at_91_60 ic_12 ?_
  refine aw_iload at_91_62 rfl ?_
  refine aw_iload at_91_64 rfl ?_
  refine aw_cI at_91_65 rfl (c_2 (by omega) _ _ _ _) (fun _ h => by cases h) rfl (fun x13 S14 => ?_)
  refine aw_popI at_91_68 ?_
  exact aw_rV at_91_69 rfl
theorem c_91 {X : amX} {d dE : Nat} {R : amS} {u : Nat → Int64} {E : Int32 → amS → amQ} (hE : ∀ dep S d', dE ≤ d' → CW X d' 73 [.ref 23, .int dep] (wc R u) S (E dep S)) (hd : dE + 4 ≤ d) (n : Nat) (l1 : Int32) (l2 : Int32) (S : amS) : CW X d 91 [.ref 23, .int l1, .int l2] (wc R u) S (g_91 E n l1 l2 S) := cw_up (by omega) (fun d' h => by
  subst h
  exact cw_of rfl (by decide) (Nat.le_of_ble_eq_true rfl) rfl (fun e => t_91 hE (by omega) n l1 l2 S))
/-! 92: ListDesk$Reader.primitive(LListDesk$Word;II)V -/
theorem at_92_0 : am_at am_m92 0 = some (.aload 0, 1, 0) := rfl
theorem at_92_1 : am_at am_m92 1 = some (.getfield 601, 3, 15) := rfl
theorem at_92_4 : am_at am_m92 4 = some (.iconst 1, 1, 0) := rfl
theorem at_92_5 : am_at am_m92 5 = some (.iconst 0, 1, 0) := rfl
theorem at_92_6 : am_at am_m92 6 = some (.iload 2, 1, 0) := rfl
theorem at_92_7 : am_at am_m92 7 = some (.invokevirtual 2, 3, 61) := rfl
theorem at_92_10 : am_at am_m92 10 = some (.pop, 1, 0) := rfl
theorem at_92_11 : am_at am_m92 11 = some (.iconst 0, 1, 0) := rfl
theorem at_92_12 : am_at am_m92 12 = some (.istore 4, 2, 0) := rfl
theorem at_92_14 : am_at am_m92 14 = some (.iload 4, 2, 0) := rfl
theorem at_92_16 : am_at am_m92 16 = some (.aload 1, 1, 0) := rfl
theorem at_92_17 : am_at am_m92 17 = some (.getfield 50001, 3, 248) := rfl
theorem at_92_20 : am_at am_m92 20 = some (.if_icmp .ge 34, 3, 0) := rfl
theorem at_92_23 : am_at am_m92 23 = some (.aload 0, 1, 0) := rfl
theorem at_92_24 : am_at am_m92 24 = some (.iload 3, 1, 0) := rfl
theorem at_92_25 : am_at am_m92 25 = some (.invokevirtual 73, 3, 50) := rfl
theorem at_92_28 : am_at am_m92 28 = some (.iinc 4 1, 3, 0) := rfl
theorem at_92_31 : am_at am_m92 31 = some (.goto 14, 3, 0) := rfl
theorem at_92_34 : am_at am_m92 34 = some (.aload 0, 1, 0) := rfl
theorem at_92_35 : am_at am_m92 35 = some (.getfield 601, 3, 15) := rfl
theorem at_92_38 : am_at am_m92 38 = some (.aload 1, 1, 0) := rfl
theorem at_92_39 : am_at am_m92 39 = some (.getfield 50002, 3, 251) := rfl
theorem at_92_42 : am_at am_m92 42 = some (.iconst 0, 1, 0) := rfl
theorem at_92_43 : am_at am_m92 43 = some (.iload 2, 1, 0) := rfl
theorem at_92_44 : am_at am_m92 44 = some (.invokevirtual 2, 3, 61) := rfl
theorem at_92_47 : am_at am_m92 47 = some (.pop, 1, 0) := rfl
theorem at_92_48 : am_at am_m92 48 = some (.aload 0, 1, 0) := rfl
theorem at_92_49 : am_at am_m92 49 = some (.dup, 1, 0) := rfl
theorem at_92_50 : am_at am_m92 50 = some (.getfield 604, 3, 47) := rfl
theorem at_92_53 : am_at am_m92 53 = some (.aload 1, 1, 0) := rfl
theorem at_92_54 : am_at am_m92 54 = some (.getfield 50001, 3, 248) := rfl
theorem at_92_57 : am_at am_m92 57 = some (.iconst 1, 1, 0) := rfl
theorem at_92_58 : am_at am_m92 58 = some (.isub, 1, 0) := rfl
theorem at_92_59 : am_at am_m92 59 = some (.isub, 1, 0) := rfl
theorem at_92_60 : am_at am_m92 60 = some (.putfield 604, 3, 47) := rfl
theorem at_92_63 : am_at am_m92 63 = some (.return_, 1, 0) := rfl
def h_92_14 (E : Int32 → amS → amQ) (n : Nat) (H14 : Nat → Int32 → Int32 → Int32 → amS → amQ) (l1 : Nat) (l2 : Int32) (l3 : Int32) (l4 : Int32) (S : amS) : amQ := az_if (1000 ≤ l1 ∧ l1 < 1019) (if (am_opn.getD (l1 - 1000) 0) ≤ l4 then az_if (1000 ≤ l1 ∧ l1 < 1019) (az_bI (g_2 (am_ord.getD (l1 - 1000) 0) 0 l2 S) fun x1 S2 => az_if (1000 ≤ l1 ∧ l1 < 1019) (az_st (sI S2 23 4 ((S2.1 23 4) - ((am_opn.getD (l1 - 1000) 0) - 1))) fun S3 => some (.inl none, S3))) else az_bV (E l3 S) fun S4 => H14 l1 l2 l3 (l4 + 1) S4)
def g_92_14 (E : Int32 → amS → amQ) : Nat → Nat → Int32 → Int32 → Int32 → amS → amQ
  | 0 => fun _ _ _ _ _ => none
  | n + 1 => h_92_14 E n (g_92_14 E n)
theorem th_92_14 {X : amX} {d dE e : Nat} {R : amS} {u : Nat → Int64} {E : Int32 → amS → amQ} {H14 : Nat → Int32 → Int32 → Int32 → amS → amQ} (hE : ∀ dep S d', dE ≤ d' → CW X d' 73 [.ref 23, .int dep] (wc R u) S (E dep S)) (hd : dE + 2 ≤ d) (n : Nat) (hH14 : ∀ (l1 : Nat) (l2 : Int32) (l3 : Int32) (l4 : Int32) (S : amS), AW X d am_m92 (wc R u) e 14 [(0, .ref 23), (1, .ref l1), (2, .int l2), (3, .int l3), (4, .int l4)] [] S (H14 l1 l2 l3 l4 S)) (l1 : Nat) (l2 : Int32) (l3 : Int32) (l4 : Int32)  (S : amS) : AW X d am_m92 (wc R u) e 14 [(0, .ref 23), (1, .ref l1), (2, .int l2), (3, .int l3), (4, .int l4)] [] S (h_92_14 E n H14 l1 l2 l3 l4 S) := by
  unfold h_92_14
  refine aw_iload at_92_14 rfl ?_
  refine aw_aload at_92_16 rfl ?_
  refine aw_getw (.int (am_opn.getD (l1 - 1000) 0)) at_92_17 (Or.inr (Or.inl ⟨rfl, rfl⟩)) ?_
  refine aw_icmp_ge at_92_20 ?_ ?_
  · refine aw_aload at_92_34 rfl ?_
    refine aw_getf at_92_35 gf_601 ?_
    refine aw_aload at_92_38 rfl ?_
    refine aw_getw (.int (am_ord.getD (l1 - 1000) 0)) at_92_39 (Or.inr (Or.inr ⟨rfl, rfl⟩)) ?_
    refine aw_ic 0 at_92_42 ic_0 ?_
    refine aw_iload at_92_43 rfl ?_
    refine aw_cI at_92_44 rfl (c_2 (by omega) _ _ _ _) (fun _ h => by cases h) rfl (fun x1 S2 => ?_)
    refine aw_popI at_92_47 ?_
    refine aw_aload at_92_48 rfl ?_
    refine aw_dupA at_92_49 ?_
    refine aw_getf at_92_50 gf_604 ?_
    refine aw_aload at_92_53 rfl ?_
    refine aw_getw (.int (am_opn.getD (l1 - 1000) 0)) at_92_54 (Or.inr (Or.inl ⟨rfl, rfl⟩)) ?_
    refine aw_ic 1 at_92_57 ic_1 ?_
    refine aw_isub at_92_58 ?_
    refine aw_isub at_92_59 ?_
    refine aw_putf at_92_60 (pf_604 _) (fun S3 => ?_)
    exact aw_rV at_92_63 rfl
  · refine aw_aload at_92_23 rfl ?_
    refine aw_iload at_92_24 rfl ?_
    refine aw_cV at_92_25 rfl (hE _ _ _ (by omega)) (fun _ h => by cases h) rfl (fun S4 => ?_)
    refine aw_iinc at_92_28 rfl (by decide) rfl ic_1 rfl ?_
    refine aw_goto at_92_31 ?_
    exact aw_sub (al_cons rfl (al_cons rfl (al_cons rfl (al_cons rfl (al_cons rfl al_nil))))) (hH14 l1 l2 l3 (l4 + 1) S4)
theorem t_92_14 {X : amX} {d dE e : Nat} {R : amS} {u : Nat → Int64} {E : Int32 → amS → amQ} (hE : ∀ dep S d', dE ≤ d' → CW X d' 73 [.ref 23, .int dep] (wc R u) S (E dep S)) (hd : dE + 2 ≤ d) : ∀ (n : Nat)  (l1 : Nat) (l2 : Int32) (l3 : Int32) (l4 : Int32) (S : amS), AW X d am_m92 (wc R u) e 14 [(0, .ref 23), (1, .ref l1), (2, .int l2), (3, .int l3), (4, .int l4)] [] S (g_92_14 E n l1 l2 l3 l4 S)
  | 0, _, _, _, _, _ => aw_none
  | n + 1, l1, l2, l3, l4, S => th_92_14 hE hd n (t_92_14 hE hd n) l1 l2 l3 l4 S
def g_92 (E : Int32 → amS → amQ) (n : Nat) (l1 : Nat) (l2 : Int32) (l3 : Int32) (S : amS) : amQ := az_bI (g_2 1 0 l2 S) fun x1 S2 => g_92_14 E n l1 l2 l3 0 S2
theorem t_92 {X : amX} {d dE e : Nat} {R : amS} {u : Nat → Int64} {E : Int32 → amS → amQ} (hE : ∀ dep S d', dE ≤ d' → CW X d' 73 [.ref 23, .int dep] (wc R u) S (E dep S)) (hd : dE + 2 ≤ d) (n : Nat)  (l1 : Nat) (l2 : Int32) (l3 : Int32) (S : amS) : AW X d am_m92 (wc R u) e 0 [(0, .ref 23), (1, .ref l1), (2, .int l2), (3, .int l3)] [] S (g_92 E n l1 l2 l3 S) := by
  unfold g_92
  refine aw_aload at_92_0 rfl ?_
  refine aw_getf at_92_1 gf_601 ?_
  refine aw_ic 1 at_92_4 ic_1 ?_
  refine aw_ic 0 at_92_5 ic_0 ?_
  refine aw_iload at_92_6 rfl ?_
  refine aw_cI at_92_7 rfl (c_2 (by omega) _ _ _ _) (fun _ h => by cases h) rfl (fun x1 S2 => ?_)
  refine aw_popI at_92_10 ?_
  refine aw_ic 0 at_92_11 ic_0 ?_
  refine aw_istore at_92_12 (by decide) rfl rfl ?_
  exact aw_sub (al_cons rfl (al_cons rfl (al_cons rfl (al_cons rfl (al_cons rfl al_nil))))) (t_92_14 hE (by omega) n l1 l2 l3 0 S2)
theorem c_92 {X : amX} {d dE : Nat} {R : amS} {u : Nat → Int64} {E : Int32 → amS → amQ} (hE : ∀ dep S d', dE ≤ d' → CW X d' 73 [.ref 23, .int dep] (wc R u) S (E dep S)) (hd : dE + 3 ≤ d) (n : Nat) (l1 : Nat) (l2 : Int32) (l3 : Int32) (S : amS) : CW X d 92 [.ref 23, .ref l1, .int l2, .int l3] (wc R u) S (g_92 E n l1 l2 l3 S) := cw_up (by omega) (fun d' h => by
  subst h
  exact cw_of rfl (by decide) (Nat.le_of_ble_eq_true rfl) rfl (fun e => t_92 hE (by omega) n l1 l2 l3 S))
/-! 80: ListDesk$Reader.form(LListDesk$Word;II)V -/
theorem at_80_0 : am_at am_m80 0 = some (.getstatic 1, 3, 169) := rfl
theorem at_80_3 : am_at am_m80 3 = some (.aload 1, 1, 0) := rfl
theorem at_80_4 : am_at am_m80 4 = some (.invokevirtual 900, 3, 175) := rfl
theorem at_80_7 : am_at am_m80 7 = some (.iaload, 1, 0) := rfl
theorem at_80_8 : am_at am_m80 8 = some (.tableswitch 112 1 6 #[48, 57, 66, 75, 84, 93], 40, 0) := rfl
theorem at_80_48 : am_at am_m80 48 = some (.aload 0, 1, 0) := rfl
theorem at_80_49 : am_at am_m80 49 = some (.iload 2, 1, 0) := rfl
theorem at_80_50 : am_at am_m80 50 = some (.iload 3, 1, 0) := rfl
theorem at_80_51 : am_at am_m80 51 = some (.invokevirtual 85, 3, 178) := rfl
theorem at_80_54 : am_at am_m80 54 = some (.goto 119, 3, 0) := rfl
theorem at_80_57 : am_at am_m80 57 = some (.aload 0, 1, 0) := rfl
theorem at_80_58 : am_at am_m80 58 = some (.iload 2, 1, 0) := rfl
theorem at_80_59 : am_at am_m80 59 = some (.iload 3, 1, 0) := rfl
theorem at_80_60 : am_at am_m80 60 = some (.invokevirtual 86, 3, 181) := rfl
theorem at_80_63 : am_at am_m80 63 = some (.goto 119, 3, 0) := rfl
theorem at_80_66 : am_at am_m80 66 = some (.aload 0, 1, 0) := rfl
theorem at_80_67 : am_at am_m80 67 = some (.iload 2, 1, 0) := rfl
theorem at_80_68 : am_at am_m80 68 = some (.iload 3, 1, 0) := rfl
theorem at_80_69 : am_at am_m80 69 = some (.invokevirtual 87, 3, 184) := rfl
theorem at_80_72 : am_at am_m80 72 = some (.goto 119, 3, 0) := rfl
theorem at_80_75 : am_at am_m80 75 = some (.aload 0, 1, 0) := rfl
theorem at_80_76 : am_at am_m80 76 = some (.iload 2, 1, 0) := rfl
theorem at_80_77 : am_at am_m80 77 = some (.iload 3, 1, 0) := rfl
theorem at_80_78 : am_at am_m80 78 = some (.invokevirtual 89, 3, 187) := rfl
theorem at_80_81 : am_at am_m80 81 = some (.goto 119, 3, 0) := rfl
theorem at_80_84 : am_at am_m80 84 = some (.aload 0, 1, 0) := rfl
theorem at_80_85 : am_at am_m80 85 = some (.iload 2, 1, 0) := rfl
theorem at_80_86 : am_at am_m80 86 = some (.iload 3, 1, 0) := rfl
theorem at_80_87 : am_at am_m80 87 = some (.invokevirtual 91, 3, 190) := rfl
theorem at_80_90 : am_at am_m80 90 = some (.goto 119, 3, 0) := rfl
theorem at_80_93 : am_at am_m80 93 = some (.aload 0, 1, 0) := rfl
theorem at_80_94 : am_at am_m80 94 = some (.getfield 601, 3, 15) := rfl
theorem at_80_97 : am_at am_m80 97 = some (.iconst 1, 1, 0) := rfl
theorem at_80_98 : am_at am_m80 98 = some (.iconst 0, 1, 0) := rfl
theorem at_80_99 : am_at am_m80 99 = some (.iload 2, 1, 0) := rfl
theorem at_80_100 : am_at am_m80 100 = some (.invokevirtual 2, 3, 61) := rfl
theorem at_80_103 : am_at am_m80 103 = some (.pop, 1, 0) := rfl
theorem at_80_104 : am_at am_m80 104 = some (.aload 0, 1, 0) := rfl
theorem at_80_105 : am_at am_m80 105 = some (.iload 3, 1, 0) := rfl
theorem at_80_106 : am_at am_m80 106 = some (.invokevirtual 82, 3, 193) := rfl
theorem at_80_109 : am_at am_m80 109 = some (.goto 119, 3, 0) := rfl
theorem at_80_112 : am_at am_m80 112 = some (.aload 0, 1, 0) := rfl
theorem at_80_113 : am_at am_m80 113 = some (.aload 1, 1, 0) := rfl
theorem at_80_114 : am_at am_m80 114 = some (.iload 2, 1, 0) := rfl
theorem at_80_115 : am_at am_m80 115 = some (.iload 3, 1, 0) := rfl
theorem at_80_116 : am_at am_m80 116 = some (.invokevirtual 92, 3, 196) := rfl
theorem at_80_119 : am_at am_m80 119 = some (.return_, 1, 0) := rfl
def g_80 (E : Int32 → amS → amQ) (n : Nat) (l1 : Nat) (l2 : Int32) (l3 : Int32) (S : amS) : amQ := az_if (1000 ≤ l1 ∧ l1 < 1019) (az_ck (Int32.ofNat (l1 - 1000)) 19 (az_st (am_sw.getD (Int32.ofNat (l1 - 1000)).toNatClampNeg 0) fun x1 => if x1 = 1 then (az_bV (g_85 E n l2 l3 S) fun S2 => some (.inl none, S2)) else if x1 = 2 then (az_bV (g_86 E n l2 l3 S) fun S3 => some (.inl none, S3)) else if x1 = 3 then (az_bV (g_87 E n l2 l3 S) fun S4 => some (.inl none, S4)) else if x1 = 4 then (az_bV (g_89 E n l2 l3 S) fun S5 => some (.inl none, S5)) else if x1 = 5 then (az_bV (g_91 E n l2 l3 S) fun S6 => some (.inl none, S6)) else if x1 = 6 then (az_bI (g_2 1 0 l2 S) fun x7 S8 => az_bV (g_82 E n l3 S8) fun S9 => some (.inl none, S9)) else az_bV (g_92 E n l1 l2 l3 S) fun S10 => some (.inl none, S10)))
theorem t_80 {X : amX} {d dE e : Nat} {R : amS} {u : Nat → Int64} {E : Int32 → amS → amQ} (hE : ∀ dep S d', dE ≤ d' → CW X d' 73 [.ref 23, .int dep] (wc R u) S (E dep S)) (hd : dE + 6 ≤ d) (n : Nat)  (l1 : Nat) (l2 : Int32) (l3 : Int32) (S : amS) : AW X d am_m80 (wc R u) e 0 [(0, .ref 23), (1, .ref l1), (2, .int l2), (3, .int l3)] [] S (g_80 E n l1 l2 l3 S) := by
  unfold g_80
  refine aw_gets at_80_0 (Or.inr ⟨rfl, rfl⟩) ?_
  refine aw_aload at_80_3 rfl ?_
  refine aw_ord at_80_4 (Nat.le_of_ble_eq_true rfl) ?_
  refine aw_iald at_80_7 ai_1201 ?_
  refine aw_nameI (fun x1 => ?_)
  refine aw_case 1 ?_ (fun h101 => ?_)
  · refine aw_tin 48 at_80_8 (by decide) ?_
    refine aw_aload at_80_48 rfl ?_
    refine aw_iload at_80_49 rfl ?_
    refine aw_iload at_80_50 rfl ?_
    refine aw_cV at_80_51 rfl (c_85 hE (by omega) n _ _ _) (fun _ h => by cases h) rfl (fun S2 => ?_)
    refine aw_goto at_80_54 ?_
    exact aw_rV at_80_119 rfl
  refine aw_case 2 ?_ (fun h102 => ?_)
  · refine aw_tin 57 at_80_8 (by decide) ?_
    refine aw_aload at_80_57 rfl ?_
    refine aw_iload at_80_58 rfl ?_
    refine aw_iload at_80_59 rfl ?_
    refine aw_cV at_80_60 rfl (c_86 hE (by omega) n _ _ _) (fun _ h => by cases h) rfl (fun S3 => ?_)
    refine aw_goto at_80_63 ?_
    exact aw_rV at_80_119 rfl
  refine aw_case 3 ?_ (fun h103 => ?_)
  · refine aw_tin 66 at_80_8 (by decide) ?_
    refine aw_aload at_80_66 rfl ?_
    refine aw_iload at_80_67 rfl ?_
    refine aw_iload at_80_68 rfl ?_
    refine aw_cV at_80_69 rfl (c_87 hE (by omega) n _ _ _) (fun _ h => by cases h) rfl (fun S4 => ?_)
    refine aw_goto at_80_72 ?_
    exact aw_rV at_80_119 rfl
  refine aw_case 4 ?_ (fun h104 => ?_)
  · refine aw_tin 75 at_80_8 (by decide) ?_
    refine aw_aload at_80_75 rfl ?_
    refine aw_iload at_80_76 rfl ?_
    refine aw_iload at_80_77 rfl ?_
    refine aw_cV at_80_78 rfl (c_89 hE (by omega) n _ _ _) (fun _ h => by cases h) rfl (fun S5 => ?_)
    refine aw_goto at_80_81 ?_
    exact aw_rV at_80_119 rfl
  refine aw_case 5 ?_ (fun h105 => ?_)
  · refine aw_tin 84 at_80_8 (by decide) ?_
    refine aw_aload at_80_84 rfl ?_
    refine aw_iload at_80_85 rfl ?_
    refine aw_iload at_80_86 rfl ?_
    refine aw_cV at_80_87 rfl (c_91 hE (by omega) n _ _ _) (fun _ h => by cases h) rfl (fun S6 => ?_)
    refine aw_goto at_80_90 ?_
    exact aw_rV at_80_119 rfl
  refine aw_case 6 ?_ (fun h106 => ?_)
  · refine aw_tin 93 at_80_8 (by decide) ?_
    refine aw_aload at_80_93 rfl ?_
    refine aw_getf at_80_94 gf_601 ?_
    refine aw_ic 1 at_80_97 ic_1 ?_
    refine aw_ic 0 at_80_98 ic_0 ?_
    refine aw_iload at_80_99 rfl ?_
    refine aw_cI at_80_100 rfl (c_2 (by omega) _ _ _ _) (fun _ h => by cases h) rfl (fun x7 S8 => ?_)
    refine aw_popI at_80_103 ?_
    refine aw_aload at_80_104 rfl ?_
    refine aw_iload at_80_105 rfl ?_
    refine aw_cV at_80_106 rfl (c_82 hE (by omega) n _ _) (fun _ h => by cases h) rfl (fun S9 => ?_)
    refine aw_goto at_80_109 ?_
    exact aw_rV at_80_119 rfl
  have h101 := az_ne 1 (n := 1) (by decide) h101
  have h102 := az_ne 2 (n := 2) (by decide) h102
  have h103 := az_ne 3 (n := 3) (by decide) h103
  have h104 := az_ne 4 (n := 4) (by decide) h104
  have h105 := az_ne 5 (n := 5) (by decide) h105
  have h106 := az_ne 6 (n := 6) (by decide) h106
  refine aw_tout at_80_8 (by omega) ?_
  refine aw_aload at_80_112 rfl ?_
  refine aw_aload at_80_113 rfl ?_
  refine aw_iload at_80_114 rfl ?_
  refine aw_iload at_80_115 rfl ?_
  refine aw_cV at_80_116 rfl (c_92 hE (by omega) n _ _ _ _) (fun _ h => by cases h) rfl (fun S10 => ?_)
  exact aw_rV at_80_119 rfl
theorem c_80 {X : amX} {d dE : Nat} {R : amS} {u : Nat → Int64} {E : Int32 → amS → amQ} (hE : ∀ dep S d', dE ≤ d' → CW X d' 73 [.ref 23, .int dep] (wc R u) S (E dep S)) (hd : dE + 7 ≤ d) (n : Nat) (l1 : Nat) (l2 : Int32) (l3 : Int32) (S : amS) : CW X d 80 [.ref 23, .ref l1, .int l2, .int l3] (wc R u) S (g_80 E n l1 l2 l3 S) := cw_up (by omega) (fun d' h => by
  subst h
  exact cw_of rfl (by decide) (Nat.le_of_ble_eq_true rfl) rfl (fun e => t_80 hE (by omega) n l1 l2 l3 S))
/-! 93: ListDesk$Reader.call(II)V -/
theorem at_93_0 : am_at am_m93 0 = some (.aload 0, 1, 0) := rfl
theorem at_93_1 : am_at am_m93 1 = some (.getfield 601, 3, 15) := rfl
theorem at_93_4 : am_at am_m93 4 = some (.iconst 1, 1, 0) := rfl
theorem at_93_5 : am_at am_m93 5 = some (.iconst 0, 1, 0) := rfl
theorem at_93_6 : am_at am_m93 6 = some (.iload 1, 1, 0) := rfl
theorem at_93_7 : am_at am_m93 7 = some (.invokevirtual 2, 3, 61) := rfl
theorem at_93_10 : am_at am_m93 10 = some (.pop, 1, 0) := rfl
theorem at_93_11 : am_at am_m93 11 = some (.aload 0, 1, 0) := rfl
theorem at_93_12 : am_at am_m93 12 = some (.getfield 600, 3, 9) := rfl
theorem at_93_15 : am_at am_m93 15 = some (.invokevirtual 104, 3, 79) := rfl
theorem at_93_18 : am_at am_m93 18 = some (.iconst 40, 2, 1) := rfl
theorem at_93_20 : am_at am_m93 20 = some (.if_icmp .ne 31, 3, 0) := rfl
theorem at_93_23 : am_at am_m93 23 = some (.aload 0, 1, 0) := rfl
theorem at_93_24 : am_at am_m93 24 = some (.iload 2, 1, 0) := rfl
theorem at_93_25 : am_at am_m93 25 = some (.invokevirtual 73, 3, 50) := rfl
theorem at_93_28 : am_at am_m93 28 = some (.goto 35, 3, 0) := rfl
theorem at_93_31 : am_at am_m93 31 = some (.aload 0, 1, 0) := rfl
theorem at_93_32 : am_at am_m93 32 = some (.invokevirtual 76, 3, 105) := rfl
theorem at_93_35 : am_at am_m93 35 = some (.iconst 0, 1, 0) := rfl
theorem at_93_36 : am_at am_m93 36 = some (.istore 3, 1, 0) := rfl
theorem at_93_37 : am_at am_m93 37 = some (.iload 3, 1, 0) := rfl
theorem at_93_38 : am_at am_m93 38 = some (.iconst 4, 1, 0) := rfl
theorem at_93_39 : am_at am_m93 39 = some (.if_icmp .ge 65, 3, 0) := rfl
theorem at_93_42 : am_at am_m93 42 = some (.aload 0, 1, 0) := rfl
theorem at_93_43 : am_at am_m93 43 = some (.getfield 600, 3, 9) := rfl
theorem at_93_46 : am_at am_m93 46 = some (.invokevirtual 104, 3, 79) := rfl
theorem at_93_49 : am_at am_m93 49 = some (.iconst 41, 2, 1) := rfl
theorem at_93_51 : am_at am_m93 51 = some (.if_icmp .eq 65, 3, 0) := rfl
theorem at_93_54 : am_at am_m93 54 = some (.aload 0, 1, 0) := rfl
theorem at_93_55 : am_at am_m93 55 = some (.iload 2, 1, 0) := rfl
theorem at_93_56 : am_at am_m93 56 = some (.invokevirtual 73, 3, 50) := rfl
theorem at_93_59 : am_at am_m93 59 = some (.iinc 3 1, 3, 0) := rfl
theorem at_93_62 : am_at am_m93 62 = some (.goto 37, 3, 0) := rfl
theorem at_93_65 : am_at am_m93 65 = some (.aload 0, 1, 0) := rfl
theorem at_93_66 : am_at am_m93 66 = some (.getfield 601, 3, 15) := rfl
theorem at_93_69 : am_at am_m93 69 = some (.iconst 14, 2, 1) := rfl
theorem at_93_71 : am_at am_m93 71 = some (.iload 3, 1, 0) := rfl
theorem at_93_72 : am_at am_m93 72 = some (.iload 1, 1, 0) := rfl
theorem at_93_73 : am_at am_m93 73 = some (.invokevirtual 2, 3, 61) := rfl
theorem at_93_76 : am_at am_m93 76 = some (.pop, 1, 0) := rfl
theorem at_93_77 : am_at am_m93 77 = some (.aload 0, 1, 0) := rfl
theorem at_93_78 : am_at am_m93 78 = some (.dup, 1, 0) := rfl
theorem at_93_79 : am_at am_m93 79 = some (.getfield 604, 3, 47) := rfl
theorem at_93_82 : am_at am_m93 82 = some (.iload 3, 1, 0) := rfl
theorem at_93_83 : am_at am_m93 83 = some (.isub, 1, 0) := rfl
theorem at_93_84 : am_at am_m93 84 = some (.putfield 604, 3, 47) := rfl
theorem at_93_87 : am_at am_m93 87 = some (.return_, 1, 0) := rfl
def g_93_65 (E : Int32 → amS → amQ) (n : Nat) (l1 : Int32) (l3 : Int32) (S : amS) : amQ := az_bI (g_2 14 l3 l1 S) fun x1 S2 => az_st (sI S2 23 4 ((S2.1 23 4) - l3)) fun S3 => some (.inl none, S3)
theorem t_93_65 {X : amX} {d dE e : Nat} {R : amS} {u : Nat → Int64} {E : Int32 → amS → amQ} (hE : ∀ dep S d', dE ≤ d' → CW X d' 73 [.ref 23, .int dep] (wc R u) S (E dep S)) (hd : dE + 4 ≤ d) (n : Nat)  (l1 : Int32) (l3 : Int32) (S : amS) : AW X d am_m93 (wc R u) e 65 [(0, .ref 23), (1, .int l1), (3, .int l3)] [] S (g_93_65 E n l1 l3 S) := by
  unfold g_93_65
  refine aw_aload at_93_65 rfl ?_
  refine aw_getf at_93_66 gf_601 ?_
  refine aw_ic 14 at_93_69 ic_14 ?_
  refine aw_iload at_93_71 rfl ?_
  refine aw_iload at_93_72 rfl ?_
  refine aw_cI at_93_73 rfl (c_2 (by omega) _ _ _ _) (fun _ h => by cases h) rfl (fun x1 S2 => ?_)
  refine aw_popI at_93_76 ?_
  refine aw_aload at_93_77 rfl ?_
  refine aw_dupA at_93_78 ?_
  refine aw_getf at_93_79 gf_604 ?_
  refine aw_iload at_93_82 rfl ?_
  refine aw_isub at_93_83 ?_
  refine aw_putf at_93_84 (pf_604 _) (fun S3 => ?_)
  exact aw_rV at_93_87 rfl
def h_93_37 (E : Int32 → amS → amQ) (n : Nat) (H37 : Int32 → Int32 → Int32 → amS → amQ) (l1 : Int32) (l2 : Int32) (l3 : Int32) (S : amS) : amQ := if 4 ≤ l3 then g_93_65 E n l1 l3 S else az_bI (g_104 n S) fun x1 S2 => if x1 = 41 then g_93_65 E n l1 l3 S2 else az_bV (E l2 S2) fun S3 => H37 l1 l2 (l3 + 1) S3
def g_93_37 (E : Int32 → amS → amQ) : Nat → Int32 → Int32 → Int32 → amS → amQ
  | 0 => fun _ _ _ _ => none
  | n + 1 => h_93_37 E n (g_93_37 E n)
theorem th_93_37 {X : amX} {d dE e : Nat} {R : amS} {u : Nat → Int64} {E : Int32 → amS → amQ} {H37 : Int32 → Int32 → Int32 → amS → amQ} (hE : ∀ dep S d', dE ≤ d' → CW X d' 73 [.ref 23, .int dep] (wc R u) S (E dep S)) (hd : dE + 4 ≤ d) (n : Nat) (hH37 : ∀ (l1 : Int32) (l2 : Int32) (l3 : Int32) (S : amS), AW X d am_m93 (wc R u) e 37 [(0, .ref 23), (1, .int l1), (2, .int l2), (3, .int l3)] [] S (H37 l1 l2 l3 S)) (l1 : Int32) (l2 : Int32) (l3 : Int32)  (S : amS) : AW X d am_m93 (wc R u) e 37 [(0, .ref 23), (1, .int l1), (2, .int l2), (3, .int l3)] [] S (h_93_37 E n H37 l1 l2 l3 S) := by
  unfold h_93_37
  refine aw_iload at_93_37 rfl ?_
  refine aw_ic 4 at_93_38 ic_4 ?_
  refine aw_icmp_ge at_93_39 ?_ ?_
  · exact aw_sub (al_cons rfl (al_cons rfl (al_cons rfl al_nil))) (t_93_65 hE (by omega) n l1 l3 S)
  · refine aw_aload at_93_42 rfl ?_
    refine aw_getf at_93_43 gf_600 ?_
    refine aw_cI at_93_46 rfl (c_104 (by omega) n _) (fun _ h => by cases h) rfl (fun x1 S2 => ?_)
    refine aw_ic 41 at_93_49 ic_41 ?_
    refine aw_icmp_eq at_93_51 ?_ ?_
    · exact aw_sub (al_cons rfl (al_cons rfl (al_cons rfl al_nil))) (t_93_65 hE (by omega) n l1 l3 S2)
    · refine aw_aload at_93_54 rfl ?_
      refine aw_iload at_93_55 rfl ?_
      refine aw_cV at_93_56 rfl (hE _ _ _ (by omega)) (fun _ h => by cases h) rfl (fun S3 => ?_)
      refine aw_iinc at_93_59 rfl (by decide) rfl ic_1 rfl ?_
      refine aw_goto at_93_62 ?_
      exact aw_sub (al_cons rfl (al_cons rfl (al_cons rfl (al_cons rfl al_nil)))) (hH37 l1 l2 (l3 + 1) S3)
theorem t_93_37 {X : amX} {d dE e : Nat} {R : amS} {u : Nat → Int64} {E : Int32 → amS → amQ} (hE : ∀ dep S d', dE ≤ d' → CW X d' 73 [.ref 23, .int dep] (wc R u) S (E dep S)) (hd : dE + 4 ≤ d) : ∀ (n : Nat)  (l1 : Int32) (l2 : Int32) (l3 : Int32) (S : amS), AW X d am_m93 (wc R u) e 37 [(0, .ref 23), (1, .int l1), (2, .int l2), (3, .int l3)] [] S (g_93_37 E n l1 l2 l3 S)
  | 0, _, _, _, _ => aw_none
  | n + 1, l1, l2, l3, S => th_93_37 hE hd n (t_93_37 hE hd n) l1 l2 l3 S
def g_93_35 (E : Int32 → amS → amQ) (n : Nat) (l1 : Int32) (l2 : Int32) (S : amS) : amQ := g_93_37 E n l1 l2 0 S
theorem t_93_35 {X : amX} {d dE e : Nat} {R : amS} {u : Nat → Int64} {E : Int32 → amS → amQ} (hE : ∀ dep S d', dE ≤ d' → CW X d' 73 [.ref 23, .int dep] (wc R u) S (E dep S)) (hd : dE + 4 ≤ d) (n : Nat)  (l1 : Int32) (l2 : Int32) (S : amS) : AW X d am_m93 (wc R u) e 35 [(0, .ref 23), (1, .int l1), (2, .int l2)] [] S (g_93_35 E n l1 l2 S) := by
  unfold g_93_35
  refine aw_ic 0 at_93_35 ic_0 ?_
  refine aw_istore at_93_36 (by decide) rfl rfl ?_
  exact aw_sub (al_cons rfl (al_cons rfl (al_cons rfl (al_cons rfl al_nil)))) (t_93_37 hE (by omega) n l1 l2 0 S)
def g_93 (E : Int32 → amS → amQ) (n : Nat) (l1 : Int32) (l2 : Int32) (S : amS) : amQ := az_bI (g_2 1 0 l1 S) fun x1 S2 => az_bI (g_104 n S2) fun x3 S4 => if x3 = 40 then az_bV (E l2 S4) fun S6 => g_93_35 E n l1 l2 S6 else az_bV (g_76 n S4) fun S5 => g_93_35 E n l1 l2 S5
theorem t_93 {X : amX} {d dE e : Nat} {R : amS} {u : Nat → Int64} {E : Int32 → amS → amQ} (hE : ∀ dep S d', dE ≤ d' → CW X d' 73 [.ref 23, .int dep] (wc R u) S (E dep S)) (hd : dE + 4 ≤ d) (n : Nat)  (l1 : Int32) (l2 : Int32) (S : amS) : AW X d am_m93 (wc R u) e 0 [(0, .ref 23), (1, .int l1), (2, .int l2)] [] S (g_93 E n l1 l2 S) := by
  unfold g_93
  refine aw_aload at_93_0 rfl ?_
  refine aw_getf at_93_1 gf_601 ?_
  refine aw_ic 1 at_93_4 ic_1 ?_
  refine aw_ic 0 at_93_5 ic_0 ?_
  refine aw_iload at_93_6 rfl ?_
  refine aw_cI at_93_7 rfl (c_2 (by omega) _ _ _ _) (fun _ h => by cases h) rfl (fun x1 S2 => ?_)
  refine aw_popI at_93_10 ?_
  refine aw_aload at_93_11 rfl ?_
  refine aw_getf at_93_12 gf_600 ?_
  refine aw_cI at_93_15 rfl (c_104 (by omega) n _) (fun _ h => by cases h) rfl (fun x3 S4 => ?_)
  refine aw_ic 40 at_93_18 ic_40 ?_
  refine aw_icmp_ne at_93_20 ?_ ?_
  · refine aw_aload at_93_31 rfl ?_
    refine aw_cV at_93_32 rfl (c_76 (by omega) n _) (fun _ h => by cases h) rfl (fun S5 => ?_)
    exact aw_sub (al_cons rfl (al_cons rfl (al_cons rfl al_nil))) (t_93_35 hE (by omega) n l1 l2 S5)
  · refine aw_aload at_93_23 rfl ?_
    refine aw_iload at_93_24 rfl ?_
    refine aw_cV at_93_25 rfl (hE _ _ _ (by omega)) (fun _ h => by cases h) rfl (fun S6 => ?_)
    refine aw_goto at_93_28 ?_
    exact aw_sub (al_cons rfl (al_cons rfl (al_cons rfl al_nil))) (t_93_35 hE (by omega) n l1 l2 S6)
theorem c_93 {X : amX} {d dE : Nat} {R : amS} {u : Nat → Int64} {E : Int32 → amS → amQ} (hE : ∀ dep S d', dE ≤ d' → CW X d' 73 [.ref 23, .int dep] (wc R u) S (E dep S)) (hd : dE + 5 ≤ d) (n : Nat) (l1 : Int32) (l2 : Int32) (S : amS) : CW X d 93 [.ref 23, .int l1, .int l2] (wc R u) S (g_93 E n l1 l2 S) := cw_up (by omega) (fun d' h => by
  subst h
  exact cw_of rfl (by decide) (Nat.le_of_ble_eq_true rfl) rfl (fun e => t_93 hE (by omega) n l1 l2 S))
/-! 78: ListDesk$Reader.list(II)V -/
theorem at_78_0 : am_at am_m78 0 = some (.iload 2, 1, 0) := rfl
theorem at_78_1 : am_at am_m78 1 = some (.iconst 20, 2, 1) := rfl
theorem at_78_3 : am_at am_m78 3 = some (.if_icmp .le 11, 3, 0) := rfl
theorem at_78_6 : am_at am_m78 6 = some (.aload 0, 1, 0) := rfl
theorem at_78_7 : am_at am_m78 7 = some (.iload 1, 1, 0) := rfl
theorem at_78_8 : am_at am_m78 8 = some (.invokevirtual 72, 3, 119) := rfl
theorem at_78_11 : am_at am_m78 11 = some (.aload 0, 1, 0) := rfl
theorem at_78_12 : am_at am_m78 12 = some (.getfield 600, 3, 9) := rfl
theorem at_78_15 : am_at am_m78 15 = some (.dup, 1, 0) := rfl
theorem at_78_16 : am_at am_m78 16 = some (.getfield 10703, 3, 102) := rfl
theorem at_78_19 : am_at am_m78 19 = some (.iconst 1, 1, 0) := rfl
theorem at_78_20 : am_at am_m78 20 = some (.iadd, 1, 0) := rfl
theorem at_78_21 : am_at am_m78 21 = some (.putfield 10703, 3, 102) := rfl
theorem at_78_24 : am_at am_m78 24 = some (.aload 0, 1, 0) := rfl
theorem at_78_25 : am_at am_m78 25 = some (.getfield 600, 3, 9) := rfl
theorem at_78_28 : am_at am_m78 28 = some (.invokevirtual 103, 3, 75) := rfl
theorem at_78_31 : am_at am_m78 31 = some (.pop, 1, 0) := rfl
theorem at_78_32 : am_at am_m78 32 = some (.aload 0, 1, 0) := rfl
theorem at_78_33 : am_at am_m78 33 = some (.invokevirtual 79, 3, 140) := rfl
theorem at_78_36 : am_at am_m78 36 = some (.astore 3, 1, 0) := rfl
theorem at_78_37 : am_at am_m78 37 = some (.aload 3, 1, 0) := rfl
theorem at_78_38 : am_at am_m78 38 = some (.ifnonnull 50, 3, 0) := rfl
theorem at_78_41 : am_at am_m78 41 = some (.aload 0, 1, 0) := rfl
theorem at_78_42 : am_at am_m78 42 = some (.iload 1, 1, 0) := rfl
theorem at_78_43 : am_at am_m78 43 = some (.iload 2, 1, 0) := rfl
theorem at_78_44 : am_at am_m78 44 = some (.invokevirtual 93, 3, 144) := rfl
theorem at_78_47 : am_at am_m78 47 = some (.goto 76, 3, 0) := rfl
theorem at_78_50 : am_at am_m78 50 = some (.aload 0, 1, 0) := rfl
theorem at_78_51 : am_at am_m78 51 = some (.getfield 600, 3, 9) := rfl
theorem at_78_54 : am_at am_m78 54 = some (.dup, 1, 0) := rfl
theorem at_78_55 : am_at am_m78 55 = some (.getfield 10703, 3, 102) := rfl
theorem at_78_58 : am_at am_m78 58 = some (.aload 3, 1, 0) := rfl
theorem at_78_59 : am_at am_m78 59 = some (.getfield 50000, 3, 147) := rfl
theorem at_78_62 : am_at am_m78 62 = some (.invokevirtual 901, 3, 153) := rfl
theorem at_78_65 : am_at am_m78 65 = some (.iadd, 1, 0) := rfl
theorem at_78_66 : am_at am_m78 66 = some (.putfield 10703, 3, 102) := rfl
theorem at_78_69 : am_at am_m78 69 = some (.aload 0, 1, 0) := rfl
theorem at_78_70 : am_at am_m78 70 = some (.aload 3, 1, 0) := rfl
theorem at_78_71 : am_at am_m78 71 = some (.iload 1, 1, 0) := rfl
theorem at_78_72 : am_at am_m78 72 = some (.iload 2, 1, 0) := rfl
theorem at_78_73 : am_at am_m78 73 = some (.invokevirtual 80, 3, 158) := rfl
theorem at_78_76 : am_at am_m78 76 = some (.aload 0, 1, 0) := rfl
theorem at_78_77 : am_at am_m78 77 = some (.iconst 41, 2, 1) := rfl
theorem at_78_79 : am_at am_m78 79 = some (.invokevirtual 81, 3, 162) := rfl
theorem at_78_82 : am_at am_m78 82 = some (.return_, 1, 0) := rfl
def g_78_76 (E : Int32 → amS → amQ) (n : Nat) (S : amS) : amQ := az_bV (g_81 n 41 S) fun S1 => some (.inl none, S1)
theorem t_78_76 {X : amX} {d dE e : Nat} {R : amS} {u : Nat → Int64} {E : Int32 → amS → amQ} (hE : ∀ dep S d', dE ≤ d' → CW X d' 73 [.ref 23, .int dep] (wc R u) S (E dep S)) (hd : dE + 7 ≤ d) (n : Nat)  (S : amS) : AW X d am_m78 (wc R u) e 76 [(0, .ref 23)] [] S (g_78_76 E n S) := by
  unfold g_78_76
  refine aw_aload at_78_76 rfl ?_
  refine aw_ic 41 at_78_77 ic_41 ?_
  refine aw_cV at_78_79 rfl (c_81 (by omega) n _ _) (fun _ h => by cases h) rfl (fun S1 => ?_)
  exact aw_rV at_78_82 rfl
def g_78_11 (E : Int32 → amS → amQ) (n : Nat) (l1 : Int32) (l2 : Int32) (S : amS) : amQ := az_st (sI S 21 3 ((S.1 21 3) + 1)) fun S1 => az_bI (g_103 n S1) fun x2 S3 => az_bW (g_79 n S3) (fun x4 S5 => az_if (1000 ≤ x4 ∧ x4 < 1019) (az_if (1100 ≤ (x4 + 100) ∧ (x4 + 100) < 1120) (az_st (sI S5 21 3 ((S5.1 21 3) + (Int32.ofNat (am_tx.getD ((x4 + 100) - 1100) []).length))) fun S6 => az_bV (g_80 E n x4 l1 l2 S6) fun S7 => g_78_76 E n S7))) (fun S5 => az_bV (g_93 E n l1 l2 S5) fun S8 => g_78_76 E n S8)
theorem t_78_11 {X : amX} {d dE e : Nat} {R : amS} {u : Nat → Int64} {E : Int32 → amS → amQ} (hE : ∀ dep S d', dE ≤ d' → CW X d' 73 [.ref 23, .int dep] (wc R u) S (E dep S)) (hd : dE + 7 ≤ d) (n : Nat)  (l1 : Int32) (l2 : Int32) (S : amS) : AW X d am_m78 (wc R u) e 11 [(0, .ref 23), (1, .int l1), (2, .int l2)] [] S (g_78_11 E n l1 l2 S) := by
  unfold g_78_11
  refine aw_aload at_78_11 rfl ?_
  refine aw_getf at_78_12 gf_600 ?_
  refine aw_dupA at_78_15 ?_
  refine aw_getf at_78_16 gf_10703 ?_
  refine aw_ic 1 at_78_19 ic_1 ?_
  refine aw_iadd at_78_20 ?_
  refine aw_putf at_78_21 (pf_10703 _) (fun S1 => ?_)
  refine aw_aload at_78_24 rfl ?_
  refine aw_getf at_78_25 gf_600 ?_
  refine aw_cI at_78_28 rfl (c_103 (by omega) n _) (fun _ h => by cases h) rfl (fun x2 S3 => ?_)
  refine aw_popI at_78_31 ?_
  refine aw_aload at_78_32 rfl ?_
  refine aw_cW at_78_33 rfl (c_79 (by omega) n _) (fun _ h => by cases h) rfl (fun x4 S5 => ?_) (fun S5 => ?_)
  · refine aw_astore at_78_36 (by decide) rfl rfl ?_
    refine aw_aload at_78_37 rfl ?_
    refine aw_nnA at_78_38 ?_
    refine aw_aload at_78_50 rfl ?_
    refine aw_getf at_78_51 gf_600 ?_
    refine aw_dupA at_78_54 ?_
    refine aw_getf at_78_55 gf_10703 ?_
    refine aw_aload at_78_58 rfl ?_
    refine aw_getw (.ref (x4 + 100)) at_78_59 (Or.inl ⟨rfl, rfl⟩) ?_
    refine aw_slen at_78_62 (Nat.le_of_ble_eq_true rfl) ?_
    refine aw_iadd at_78_65 ?_
    refine aw_putf at_78_66 (pf_10703 _) (fun S6 => ?_)
    refine aw_aload at_78_69 rfl ?_
    refine aw_aload at_78_70 rfl ?_
    refine aw_iload at_78_71 rfl ?_
    refine aw_iload at_78_72 rfl ?_
    refine aw_cV at_78_73 rfl (c_80 hE (by omega) n _ _ _ _) (fun _ h => by cases h) rfl (fun S7 => ?_)
    exact aw_sub (al_cons rfl al_nil) (t_78_76 hE (by omega) n S7)
  · refine aw_astoren at_78_36 (by decide) rfl rfl ?_
    refine aw_aloadn at_78_37 rfl ?_
    refine aw_nnN at_78_38 ?_
    refine aw_aload at_78_41 rfl ?_
    refine aw_iload at_78_42 rfl ?_
    refine aw_iload at_78_43 rfl ?_
    refine aw_cV at_78_44 rfl (c_93 hE (by omega) n _ _ _) (fun _ h => by cases h) rfl (fun S8 => ?_)
    refine aw_goto at_78_47 ?_
    exact aw_sub (al_cons rfl al_nil) (t_78_76 hE (by omega) n S8)
def g_78 (E : Int32 → amS → amQ) (n : Nat) (l1 : Int32) (l2 : Int32) (S : amS) : amQ := if l2 ≤ 20 then g_78_11 E n l1 l2 S else az_bV (g_72 l1 S) fun S1 => g_78_11 E n l1 l2 S1
theorem t_78 {X : amX} {d dE e : Nat} {R : amS} {u : Nat → Int64} {E : Int32 → amS → amQ} (hE : ∀ dep S d', dE ≤ d' → CW X d' 73 [.ref 23, .int dep] (wc R u) S (E dep S)) (hd : dE + 7 ≤ d) (n : Nat)  (l1 : Int32) (l2 : Int32) (S : amS) : AW X d am_m78 (wc R u) e 0 [(0, .ref 23), (1, .int l1), (2, .int l2)] [] S (g_78 E n l1 l2 S) := by
  unfold g_78
  refine aw_iload at_78_0 rfl ?_
  refine aw_ic 20 at_78_1 ic_20 ?_
  refine aw_icmp_le at_78_3 ?_ ?_
  · exact aw_sub (al_cons rfl (al_cons rfl (al_cons rfl al_nil))) (t_78_11 hE (by omega) n l1 l2 S)
  · refine aw_aload at_78_6 rfl ?_
    refine aw_iload at_78_7 rfl ?_
    refine aw_cV at_78_8 rfl (c_72 (by omega) _ _) (fun _ h => by cases h) rfl (fun S1 => ?_)
    exact aw_sub (al_cons rfl (al_cons rfl (al_cons rfl al_nil))) (t_78_11 hE (by omega) n l1 l2 S1)
theorem c_78 {X : amX} {d dE : Nat} {R : amS} {u : Nat → Int64} {E : Int32 → amS → amQ} (hE : ∀ dep S d', dE ≤ d' → CW X d' 73 [.ref 23, .int dep] (wc R u) S (E dep S)) (hd : dE + 8 ≤ d) (n : Nat) (l1 : Int32) (l2 : Int32) (S : amS) : CW X d 78 [.ref 23, .int l1, .int l2] (wc R u) S (g_78 E n l1 l2 S) := cw_up (by omega) (fun d' h => by
  subst h
  exact cw_of rfl (by decide) (Nat.le_of_ble_eq_true rfl) rfl (fun e => t_78 hE (by omega) n l1 l2 S))
/-! 106: ListDesk$Tape.isAtNumber()Z -/
theorem at_106_0 : am_at am_m106 0 = some (.aload 0, 1, 0) := rfl
theorem at_106_1 : am_at am_m106 1 = some (.aload 0, 1, 0) := rfl
theorem at_106_2 : am_at am_m106 2 = some (.getfield 703, 3, 28) := rfl
theorem at_106_5 : am_at am_m106 5 = some (.invokevirtual 102, 3, 31) := rfl
theorem at_106_8 : am_at am_m106 8 = some (.invokestatic 110, 3, 42) := rfl
theorem at_106_11 : am_at am_m106 11 = some (.ifCond .ne 43, 3, 0) := rfl
theorem at_106_14 : am_at am_m106 14 = some (.aload 0, 1, 0) := rfl
theorem at_106_15 : am_at am_m106 15 = some (.aload 0, 1, 0) := rfl
theorem at_106_16 : am_at am_m106 16 = some (.getfield 703, 3, 28) := rfl
theorem at_106_19 : am_at am_m106 19 = some (.invokevirtual 102, 3, 31) := rfl
theorem at_106_22 : am_at am_m106 22 = some (.iconst 45, 2, 1) := rfl
theorem at_106_24 : am_at am_m106 24 = some (.if_icmp .ne 47, 3, 0) := rfl
theorem at_106_27 : am_at am_m106 27 = some (.aload 0, 1, 0) := rfl
theorem at_106_28 : am_at am_m106 28 = some (.aload 0, 1, 0) := rfl
theorem at_106_29 : am_at am_m106 29 = some (.getfield 703, 3, 28) := rfl
theorem at_106_32 : am_at am_m106 32 = some (.iconst 1, 1, 0) := rfl
theorem at_106_33 : am_at am_m106 33 = some (.iadd, 1, 0) := rfl
theorem at_106_34 : am_at am_m106 34 = some (.invokevirtual 102, 3, 31) := rfl
theorem at_106_37 : am_at am_m106 37 = some (.invokestatic 110, 3, 42) := rfl
theorem at_106_40 : am_at am_m106 40 = some (.ifCond .eq 47, 3, 0) := rfl
theorem at_106_43 : am_at am_m106 43 = some (.iconst 1, 1, 0) := rfl
theorem at_106_44 : am_at am_m106 44 = some (.goto 48, 3, 0) := rfl
theorem at_106_47 : am_at am_m106 47 = some (.iconst 0, 1, 0) := rfl
theorem at_106_48 : am_at am_m106 48 = some (.ireturn, 1, 0) := rfl
def g_106 (S : amS) : amQ := az_bI (g_102 (S.1 21 3) S) fun x1 S2 => az_bI (g_110 x1 S2) fun x3 S4 => if x3 = 0 then az_bI (g_102 (S4.1 21 3) S4) fun x5 S6 => if x5 = 45 then az_bI (g_102 ((S6.1 21 3) + 1) S6) fun x7 S8 => az_bI (g_110 x7 S8) fun x9 S10 => if x9 = 0 then some (.inl (some (.int 0)), S10) else some (.inl (some (.int 1)), S10) else some (.inl (some (.int 0)), S6) else some (.inl (some (.int 1)), S4)
theorem t_106 {X : amX} {d e : Nat} {R : amS} {u : Nat → Int64} (hd : 1 ≤ d)  (S : amS) : AW X d am_m106 (wc R u) e 0 [(0, .ref 21)] [] S (g_106 S) := by
  unfold g_106
  refine aw_aload at_106_0 rfl ?_
  refine aw_aload at_106_1 rfl ?_
  refine aw_getf at_106_2 gf_703 ?_
  refine aw_cI at_106_5 rfl (c_102 (by omega) _ _) (fun _ h => by cases h) rfl (fun x1 S2 => ?_)
  refine aw_cI at_106_8 rfl (c_110 (by omega) _ _) (fun _ h => by cases h) rfl (fun x3 S4 => ?_)
  refine aw_if_ne at_106_11 ?_ ?_
  · refine aw_ic 1 at_106_43 ic_1 ?_
    refine aw_goto at_106_44 ?_
    exact aw_rZ at_106_48 rfl (Or.inr rfl)
  · refine aw_aload at_106_14 rfl ?_
    refine aw_aload at_106_15 rfl ?_
    refine aw_getf at_106_16 gf_703 ?_
    refine aw_cI at_106_19 rfl (c_102 (by omega) _ _) (fun _ h => by cases h) rfl (fun x5 S6 => ?_)
    refine aw_ic 45 at_106_22 ic_45 ?_
    refine aw_icmp_ne at_106_24 ?_ ?_
    · refine aw_ic 0 at_106_47 ic_0 ?_
      exact aw_rZ at_106_48 rfl (Or.inl rfl)
    · refine aw_aload at_106_27 rfl ?_
      refine aw_aload at_106_28 rfl ?_
      refine aw_getf at_106_29 gf_703 ?_
      refine aw_ic 1 at_106_32 ic_1 ?_
      refine aw_iadd at_106_33 ?_
      refine aw_cI at_106_34 rfl (c_102 (by omega) _ _) (fun _ h => by cases h) rfl (fun x7 S8 => ?_)
      refine aw_cI at_106_37 rfl (c_110 (by omega) _ _) (fun _ h => by cases h) rfl (fun x9 S10 => ?_)
      refine aw_if_eq at_106_40 ?_ ?_
      · refine aw_ic 0 at_106_47 ic_0 ?_
        exact aw_rZ at_106_48 rfl (Or.inl rfl)
      · refine aw_ic 1 at_106_43 ic_1 ?_
        refine aw_goto at_106_44 ?_
        exact aw_rZ at_106_48 rfl (Or.inr rfl)
theorem c_106 {X : amX} {d : Nat} {R : amS} {u : Nat → Int64} (hd : 2 ≤ d) (S : amS) : CW X d 106 [.ref 21] (wc R u) S (g_106 S) := cw_up (by omega) (fun d' h => by
  subst h
  exact cw_of rfl (by decide) (Nat.le_of_ble_eq_true rfl) rfl (fun e => t_106 (by omega) S))
/-! 73: ListDesk$Reader.expression(I)V -/
theorem at_73_0 : am_at am_m73 0 = some (.aload 0, 1, 0) := rfl
theorem at_73_1 : am_at am_m73 1 = some (.getfield 600, 3, 9) := rfl
theorem at_73_4 : am_at am_m73 4 = some (.invokevirtual 103, 3, 75) := rfl
theorem at_73_7 : am_at am_m73 7 = some (.istore 2, 1, 0) := rfl
theorem at_73_8 : am_at am_m73 8 = some (.aload 0, 1, 0) := rfl
theorem at_73_9 : am_at am_m73 9 = some (.getfield 600, 3, 9) := rfl
theorem at_73_12 : am_at am_m73 12 = some (.invokevirtual 104, 3, 79) := rfl
theorem at_73_15 : am_at am_m73 15 = some (.iconst 40, 2, 1) := rfl
theorem at_73_17 : am_at am_m73 17 = some (.if_icmp .ne 31, 3, 0) := rfl
theorem at_73_20 : am_at am_m73 20 = some (.aload 0, 1, 0) := rfl
theorem at_73_21 : am_at am_m73 21 = some (.iload 2, 1, 0) := rfl
theorem at_73_22 : am_at am_m73 22 = some (.iload 1, 1, 0) := rfl
theorem at_73_23 : am_at am_m73 23 = some (.iconst 1, 1, 0) := rfl
theorem at_73_24 : am_at am_m73 24 = some (.iadd, 1, 0) := rfl
theorem at_73_25 : am_at am_m73 25 = some (.invokevirtual 78, 3, 82) := rfl
theorem at_73_28 : am_at am_m73 28 = some (.goto 93, 3, 0) := rfl
theorem at_73_31 : am_at am_m73 31 = some (.aload 0, 1, 0) := rfl
theorem at_73_32 : am_at am_m73 32 = some (.getfield 600, 3, 9) := rfl
theorem at_73_35 : am_at am_m73 35 = some (.invokevirtual 106, 3, 86) := rfl
theorem at_73_38 : am_at am_m73 38 = some (.ifCond .eq 54, 3, 0) := rfl
theorem at_73_41 : am_at am_m73 41 = some (.aload 0, 1, 0) := rfl
theorem at_73_42 : am_at am_m73 42 = some (.iconst 2, 1, 0) := rfl
theorem at_73_43 : am_at am_m73 43 = some (.aload 0, 1, 0) := rfl
theorem at_73_44 : am_at am_m73 44 = some (.invokevirtual 75, 3, 89) := rfl
theorem at_73_47 : am_at am_m73 47 = some (.iload 2, 1, 0) := rfl
theorem at_73_48 : am_at am_m73 48 = some (.invokevirtual 74, 3, 92) := rfl
theorem at_73_51 : am_at am_m73 51 = some (.goto 93, 3, 0) := rfl
theorem at_73_54 : am_at am_m73 54 = some (.aload 0, 1, 0) := rfl
theorem at_73_55 : am_at am_m73 55 = some (.getfield 600, 3, 9) := rfl
theorem at_73_58 : am_at am_m73 58 = some (.ldc 1119, 2, 96) := rfl
theorem at_73_60 : am_at am_m73 60 = some (.invokevirtual 107, 3, 98) := rfl
theorem at_73_63 : am_at am_m73 63 = some (.ifCond .eq 89, 3, 0) := rfl
theorem at_73_66 : am_at am_m73 66 = some (.aload 0, 1, 0) := rfl
theorem at_73_67 : am_at am_m73 67 = some (.getfield 600, 3, 9) := rfl
theorem at_73_70 : am_at am_m73 70 = some (.dup, 1, 0) := rfl
theorem at_73_71 : am_at am_m73 71 = some (.getfield 10703, 3, 102) := rfl
theorem at_73_74 : am_at am_m73 74 = some (.iconst 3, 1, 0) := rfl
theorem at_73_75 : am_at am_m73 75 = some (.iadd, 1, 0) := rfl
theorem at_73_76 : am_at am_m73 76 = some (.putfield 10703, 3, 102) := rfl
theorem at_73_79 : am_at am_m73 79 = some (.aload 0, 1, 0) := rfl
theorem at_73_80 : am_at am_m73 80 = some (.iconst 3, 1, 0) := rfl
theorem at_73_81 : am_at am_m73 81 = some (.iconst 0, 1, 0) := rfl
theorem at_73_82 : am_at am_m73 82 = some (.iload 2, 1, 0) := rfl
theorem at_73_83 : am_at am_m73 83 = some (.invokevirtual 74, 3, 92) := rfl
theorem at_73_86 : am_at am_m73 86 = some (.goto 93, 3, 0) := rfl
theorem at_73_89 : am_at am_m73 89 = some (.aload 0, 1, 0) := rfl
theorem at_73_90 : am_at am_m73 90 = some (.invokevirtual 76, 3, 105) := rfl
theorem at_73_93 : am_at am_m73 93 = some (.return_, 1, 0) := rfl
def b_73 (E : Int32 → amS → amQ) (n : Nat) (l1 : Int32) (S : amS) : amQ := az_bI (g_103 n S) fun x1 S2 => az_bI (g_104 n S2) fun x3 S4 => if x3 = 40 then az_bV (g_78 E n x1 (l1 + 1) S4) fun S15 => some (.inl none, S15) else az_bI (g_106 S4) fun x5 S6 => if x5 = 0 then az_bI (g_107 n 1119 S6) fun x7 S8 => if x7 = 0 then az_bV (g_76 n S8) fun S9 => some (.inl none, S9) else az_st (sI S8 21 3 ((S8.1 21 3) + 3)) fun S10 => az_bV (g_74 3 0 x1 S10) fun S11 => some (.inl none, S11) else az_bI (g_75 n S6) fun x12 S13 => az_bV (g_74 2 x12 x1 S13) fun S14 => some (.inl none, S14)
theorem tb_73 {X : amX} {d dE e : Nat} {R : amS} {u : Nat → Int64} {E : Int32 → amS → amQ} (hE : ∀ dep S d', dE ≤ d' → CW X d' 73 [.ref 23, .int dep] (wc R u) S (E dep S)) (hd : dE + 8 ≤ d) (n : Nat)  (l1 : Int32) (S : amS) : AW X d am_m73 (wc R u) e 0 [(0, .ref 23), (1, .int l1)] [] S (b_73 E n l1 S) := by
  unfold b_73
  refine aw_aload at_73_0 rfl ?_
  refine aw_getf at_73_1 gf_600 ?_
  refine aw_cI at_73_4 rfl (c_103 (by omega) n _) (fun _ h => by cases h) rfl (fun x1 S2 => ?_)
  refine aw_istore at_73_7 (by decide) rfl rfl ?_
  refine aw_aload at_73_8 rfl ?_
  refine aw_getf at_73_9 gf_600 ?_
  refine aw_cI at_73_12 rfl (c_104 (by omega) n _) (fun _ h => by cases h) rfl (fun x3 S4 => ?_)
  refine aw_ic 40 at_73_15 ic_40 ?_
  refine aw_icmp_ne at_73_17 ?_ ?_
  · refine aw_aload at_73_31 rfl ?_
    refine aw_getf at_73_32 gf_600 ?_
    refine aw_cI at_73_35 rfl (c_106 (by omega) _) (fun _ h => by cases h) rfl (fun x5 S6 => ?_)
    refine aw_if_eq at_73_38 ?_ ?_
    · refine aw_aload at_73_54 rfl ?_
      refine aw_getf at_73_55 gf_600 ?_
      refine aw_ldc at_73_58 ?_
      refine aw_cI at_73_60 rfl (c_107 (by omega) n _ _) (fun _ h => by cases h) rfl (fun x7 S8 => ?_)
      refine aw_if_eq at_73_63 ?_ ?_
      · refine aw_aload at_73_89 rfl ?_
        refine aw_cV at_73_90 rfl (c_76 (by omega) n _) (fun _ h => by cases h) rfl (fun S9 => ?_)
        exact aw_rV at_73_93 rfl
      · refine aw_aload at_73_66 rfl ?_
        refine aw_getf at_73_67 gf_600 ?_
        refine aw_dupA at_73_70 ?_
        refine aw_getf at_73_71 gf_10703 ?_
        refine aw_ic 3 at_73_74 ic_3 ?_
        refine aw_iadd at_73_75 ?_
        refine aw_putf at_73_76 (pf_10703 _) (fun S10 => ?_)
        refine aw_aload at_73_79 rfl ?_
        refine aw_ic 3 at_73_80 ic_3 ?_
        refine aw_ic 0 at_73_81 ic_0 ?_
        refine aw_iload at_73_82 rfl ?_
        refine aw_cV at_73_83 rfl (c_74 (by omega) _ _ _ _) (fun _ h => by cases h) rfl (fun S11 => ?_)
        refine aw_goto at_73_86 ?_
        exact aw_rV at_73_93 rfl
    · refine aw_aload at_73_41 rfl ?_
      refine aw_ic 2 at_73_42 ic_2 ?_
      refine aw_aload at_73_43 rfl ?_
      refine aw_cI at_73_44 rfl (c_75 (by omega) n _) (fun _ h => by cases h) rfl (fun x12 S13 => ?_)
      refine aw_iload at_73_47 rfl ?_
      refine aw_cV at_73_48 rfl (c_74 (by omega) _ _ _ _) (fun _ h => by cases h) rfl (fun S14 => ?_)
      refine aw_goto at_73_51 ?_
      exact aw_rV at_73_93 rfl
  · refine aw_aload at_73_20 rfl ?_
    refine aw_iload at_73_21 rfl ?_
    refine aw_iload at_73_22 rfl ?_
    refine aw_ic 1 at_73_23 ic_1 ?_
    refine aw_iadd at_73_24 ?_
    refine aw_cV at_73_25 rfl (c_78 hE (by omega) n _ _ _) (fun _ h => by cases h) rfl (fun S15 => ?_)
    refine aw_goto at_73_28 ?_
    exact aw_rV at_73_93 rfl
theorem cb_73 {X : amX} {d dE : Nat} {R : amS} {u : Nat → Int64} {E : Int32 → amS → amQ} (hE : ∀ dep S d', dE ≤ d' → CW X d' 73 [.ref 23, .int dep] (wc R u) S (E dep S)) (hd : dE + 9 ≤ d) (n : Nat) (l1 : Int32) (S : amS) : CW X d 73 [.ref 23, .int l1] (wc R u) S (b_73 E n l1 S) := cw_up (by omega) (fun d' h => by
  subst h
  exact cw_of rfl (by decide) (Nat.le_of_ble_eq_true rfl) rfl (fun e => tb_73 hE (by omega) n l1 S))
/-! 99: ListDesk$Tape.hasRoomFor(I)Z -/
theorem at_99_0 : am_at am_m99 0 = some (.aload 0, 1, 0) := rfl
theorem at_99_1 : am_at am_m99 1 = some (.getfield 701, 3, 15) := rfl
theorem at_99_4 : am_at am_m99 4 = some (.iload 1, 1, 0) := rfl
theorem at_99_5 : am_at am_m99 5 = some (.iadd, 1, 0) := rfl
theorem at_99_6 : am_at am_m99 6 = some (.iconst 250, 3, 2) := rfl
theorem at_99_9 : am_at am_m99 9 = some (.if_icmp .gt 16, 3, 0) := rfl
theorem at_99_12 : am_at am_m99 12 = some (.iconst 1, 1, 0) := rfl
theorem at_99_13 : am_at am_m99 13 = some (.goto 17, 3, 0) := rfl
theorem at_99_16 : am_at am_m99 16 = some (.iconst 0, 1, 0) := rfl
theorem at_99_17 : am_at am_m99 17 = some (.ireturn, 1, 0) := rfl
def g_99 (l1 : Int32) (S : amS) : amQ := if 250 < ((S.1 21 1) + l1) then some (.inl (some (.int 0)), S) else some (.inl (some (.int 1)), S)
theorem t_99 {X : amX} {d e : Nat} {R : amS} {u : Nat → Int64} (hd : 0 ≤ d)  (l1 : Int32) (S : amS) : AW X d am_m99 (wc R u) e 0 [(0, .ref 21), (1, .int l1)] [] S (g_99 l1 S) := by
  unfold g_99
  refine aw_aload at_99_0 rfl ?_
  refine aw_getf at_99_1 gf_701 ?_
  refine aw_iload at_99_4 rfl ?_
  refine aw_iadd at_99_5 ?_
  refine aw_ic 250 at_99_6 ic_250 ?_
  refine aw_icmp_gt at_99_9 ?_ ?_
  · refine aw_ic 0 at_99_16 ic_0 ?_
    exact aw_rZ at_99_17 rfl (Or.inl rfl)
  · refine aw_ic 1 at_99_12 ic_1 ?_
    refine aw_goto at_99_13 ?_
    exact aw_rZ at_99_17 rfl (Or.inr rfl)
theorem c_99 {X : amX} {d : Nat} {R : amS} {u : Nat → Int64} (hd : 1 ≤ d) (l1 : Int32) (S : amS) : CW X d 99 [.ref 21, .int l1] (wc R u) S (g_99 l1 S) := cw_up (by omega) (fun d' h => by
  subst h
  exact cw_of rfl (by decide) (Nat.le_of_ble_eq_true rfl) rfl (fun e => t_99 (by omega) l1 S))
/-! 100: ListDesk$Tape.append(JI)I -/
theorem at_100_0 : am_at am_m100 0 = some (.iload 3, 1, 0) := rfl
theorem at_100_1 : am_at am_m100 1 = some (.iconst 1, 1, 0) := rfl
theorem at_100_2 : am_at am_m100 2 = some (.isub, 1, 0) := rfl
theorem at_100_3 : am_at am_m100 3 = some (.istore 4, 2, 0) := rfl
theorem at_100_5 : am_at am_m100 5 = some (.iload 4, 2, 0) := rfl
theorem at_100_7 : am_at am_m100 7 = some (.ifCond .lt 49, 3, 0) := rfl
theorem at_100_10 : am_at am_m100 10 = some (.aload 0, 1, 0) := rfl
theorem at_100_11 : am_at am_m100 11 = some (.getfield 700, 3, 9) := rfl
theorem at_100_14 : am_at am_m100 14 = some (.aload 0, 1, 0) := rfl
theorem at_100_15 : am_at am_m100 15 = some (.getfield 701, 3, 15) := rfl
theorem at_100_18 : am_at am_m100 18 = some (.lload 1, 1, 0) := rfl
theorem at_100_19 : am_at am_m100 19 = some (.iconst 8, 2, 1) := rfl
theorem at_100_21 : am_at am_m100 21 = some (.iload 4, 2, 0) := rfl
theorem at_100_23 : am_at am_m100 23 = some (.imul, 1, 0) := rfl
theorem at_100_24 : am_at am_m100 24 = some (.lushr, 1, 0) := rfl
theorem at_100_25 : am_at am_m100 25 = some (.l2i, 1, 0) := rfl
theorem at_100_26 : am_at am_m100 26 = some (.iconst 255, 3, 2) := rfl
theorem at_100_29 : am_at am_m100 29 = some (.iand, 1, 0) := rfl
theorem at_100_30 : am_at am_m100 30 = some (.invokestatic 95, 3, 19) := rfl
theorem at_100_33 : am_at am_m100 33 = some (.aload 0, 1, 0) := rfl
theorem at_100_34 : am_at am_m100 34 = some (.dup, 1, 0) := rfl
theorem at_100_35 : am_at am_m100 35 = some (.getfield 701, 3, 15) := rfl
theorem at_100_38 : am_at am_m100 38 = some (.iconst 1, 1, 0) := rfl
theorem at_100_39 : am_at am_m100 39 = some (.iadd, 1, 0) := rfl
theorem at_100_40 : am_at am_m100 40 = some (.putfield 701, 3, 15) := rfl
theorem at_100_43 : am_at am_m100 43 = some (.iinc 4 (-1), 3, 0) := rfl
theorem at_100_46 : am_at am_m100 46 = some (.goto 5, 3, 0) := rfl
theorem at_100_49 : am_at am_m100 49 = some (.aload 0, 1, 0) := rfl
theorem at_100_50 : am_at am_m100 50 = some (.getfield 701, 3, 15) := rfl
theorem at_100_53 : am_at am_m100 53 = some (.ireturn, 1, 0) := rfl
def h_100_5 (n : Nat) (H5 : Int64 → Int32 → amS → amQ) (l1 : Int64) (l4 : Int32) (S : amS) : amQ := if l4 < 0 then some (.inl (some (.int (S.1 21 1))), S) else az_st (sR S 22 250 (S.1 21 1) ((Int64.toInt32 (az_lushr l1 (8 * l4))) &&& 255)) fun S1 => az_st (sI S1 21 1 ((S1.1 21 1) + 1)) fun S2 => H5 l1 (l4 + (-1)) S2
def g_100_5 : Nat → Int64 → Int32 → amS → amQ
  | 0 => fun _ _ _ => none
  | n + 1 => h_100_5 n (g_100_5 n)
theorem th_100_5 {X : amX} {d e : Nat} {R : amS} {u : Nat → Int64} {H5 : Int64 → Int32 → amS → amQ} (hd : 1 ≤ d) (n : Nat) (hH5 : ∀ (l1 : Int64) (l4 : Int32) (S : amS), AW X d am_m100 (wc R u) e 5 [(0, .ref 21), (1, .long l1), (4, .int l4)] [] S (H5 l1 l4 S)) (l1 : Int64) (l4 : Int32)  (S : amS) : AW X d am_m100 (wc R u) e 5 [(0, .ref 21), (1, .long l1), (4, .int l4)] [] S (h_100_5 n H5 l1 l4 S) := by
  unfold h_100_5
  refine aw_iload at_100_5 rfl ?_
  refine aw_if_lt at_100_7 ?_ ?_
  · refine aw_aload at_100_49 rfl ?_
    refine aw_getf at_100_50 gf_701 ?_
    exact aw_rI at_100_53 rfl
  · refine aw_aload at_100_10 rfl ?_
    refine aw_getf at_100_11 gf_700 ?_
    refine aw_aload at_100_14 rfl ?_
    refine aw_getf at_100_15 gf_701 ?_
    refine aw_lload at_100_18 rfl ?_
    refine aw_ic 8 at_100_19 ic_8 ?_
    refine aw_iload at_100_21 rfl ?_
    refine aw_imul at_100_23 ?_
    refine aw_lushr at_100_24 ?_
    refine aw_l2i at_100_25 ?_
    refine aw_ic 255 at_100_26 ic_255 ?_
    refine aw_iand at_100_29 ?_
    refine aw_pV at_100_30 rfl (cw_95 (by omega) (by decide) (fun e => ar_22) (fun e => al_22) (fun e k x => as_22 k x)) (fun S1 => ?_)
    refine aw_aload at_100_33 rfl ?_
    refine aw_dupA at_100_34 ?_
    refine aw_getf at_100_35 gf_701 ?_
    refine aw_ic 1 at_100_38 ic_1 ?_
    refine aw_iadd at_100_39 ?_
    refine aw_putf at_100_40 (pf_701 _) (fun S2 => ?_)
    refine aw_iinc at_100_43 rfl (by decide) rfl ic_m1 rfl ?_
    refine aw_goto at_100_46 ?_
    exact aw_sub (al_cons rfl (al_cons rfl (al_cons rfl al_nil))) (hH5 l1 (l4 + (-1)) S2)
theorem t_100_5 {X : amX} {d e : Nat} {R : amS} {u : Nat → Int64} (hd : 1 ≤ d) : ∀ (n : Nat)  (l1 : Int64) (l4 : Int32) (S : amS), AW X d am_m100 (wc R u) e 5 [(0, .ref 21), (1, .long l1), (4, .int l4)] [] S (g_100_5 n l1 l4 S)
  | 0, _, _, _ => aw_none
  | n + 1, l1, l4, S => th_100_5 hd n (t_100_5 hd n) l1 l4 S
def g_100 (n : Nat) (l1 : Int64) (l3 : Int32) (S : amS) : amQ := az_st (l3 - 1) fun x1 => g_100_5 n l1 x1 S
theorem t_100 {X : amX} {d e : Nat} {R : amS} {u : Nat → Int64} (hd : 1 ≤ d) (n : Nat)  (l1 : Int64) (l3 : Int32) (S : amS) : AW X d am_m100 (wc R u) e 0 [(0, .ref 21), (1, .long l1), (3, .int l3)] [] S (g_100 n l1 l3 S) := by
  unfold g_100
  refine aw_iload at_100_0 rfl ?_
  refine aw_ic 1 at_100_1 ic_1 ?_
  refine aw_isub at_100_2 ?_
  refine aw_nameI (fun x1 => ?_)
  refine aw_istore at_100_3 (by decide) rfl rfl ?_
  exact aw_sub (al_cons rfl (al_cons rfl (al_cons rfl al_nil))) (t_100_5 (by omega) n l1 x1 S)
theorem c_100 {X : amX} {d : Nat} {R : amS} {u : Nat → Int64} (hd : 2 ≤ d) (n : Nat) (l1 : Int64) (l3 : Int32) (S : amS) : CW X d 100 [.ref 21, .long l1, .int l3] (wc R u) S (g_100 n l1 l3 S) := cw_up (by omega) (fun d' h => by
  subst h
  exact cw_of rfl (by decide) (Nat.le_of_ble_eq_true rfl) rfl (fun e => t_100 (by omega) n l1 l3 S))
/-! 116: ListDesk.feed(JI)I -/
theorem at_116_0 : am_at am_m116 0 = some (.iload 3, 1, 0) := rfl
theorem at_116_1 : am_at am_m116 1 = some (.iconst 1, 1, 0) := rfl
theorem at_116_2 : am_at am_m116 2 = some (.if_icmp .lt 11, 3, 0) := rfl
theorem at_116_5 : am_at am_m116 5 = some (.iload 3, 1, 0) := rfl
theorem at_116_6 : am_at am_m116 6 = some (.iconst 8, 2, 1) := rfl
theorem at_116_8 : am_at am_m116 8 = some (.if_icmp .le 21, 3, 0) := rfl
theorem at_116_11 : am_at am_m116 11 = some (.new 1000, 3, 1) := rfl
theorem at_116_21 : am_at am_m116 21 = some (.aload 0, 1, 0) := rfl
theorem at_116_22 : am_at am_m116 22 = some (.getfield 800, 3, 21) := rfl
theorem at_116_25 : am_at am_m116 25 = some (.iload 3, 1, 0) := rfl
theorem at_116_26 : am_at am_m116 26 = some (.invokevirtual 99, 3, 50) := rfl
theorem at_116_29 : am_at am_m116 29 = some (.ifCond .ne 42, 3, 0) := rfl
theorem at_116_32 : am_at am_m116 32 = some (.new 1001, 3, 2) := rfl
theorem at_116_42 : am_at am_m116 42 = some (.aload 0, 1, 0) := rfl
theorem at_116_43 : am_at am_m116 43 = some (.getfield 800, 3, 21) := rfl
theorem at_116_46 : am_at am_m116 46 = some (.lload 1, 1, 0) := rfl
theorem at_116_47 : am_at am_m116 47 = some (.iload 3, 1, 0) := rfl
theorem at_116_48 : am_at am_m116 48 = some (.invokevirtual 100, 3, 59) := rfl
theorem at_116_51 : am_at am_m116 51 = some (.ireturn, 1, 0) := rfl
def g_116 (n : Nat) (l1 : Int64) (l3 : Int32) (S : amS) : amQ := if l3 < 1 then some (.inr 0, S) else if l3 ≤ 8 then az_bI (g_99 l3 S) fun x1 S2 => if x1 = 0 then some (.inr 1, S2) else az_bI (g_100 n l1 l3 S2) fun x3 S4 => some (.inl (some (.int x3)), S4) else some (.inr 0, S)
theorem t_116 {X : amX} {d e : Nat} {R : amS} {u : Nat → Int64} (hd : 2 ≤ d) (n : Nat)  (l1 : Int64) (l3 : Int32) (S : amS) : AW X d am_m116 (wc R u) e 0 [(0, .ref 0), (1, .long l1), (3, .int l3)] [] S (g_116 n l1 l3 S) := by
  unfold g_116
  refine aw_iload at_116_0 rfl ?_
  refine aw_ic 1 at_116_1 ic_1 ?_
  refine aw_icmp_lt at_116_2 ?_ ?_
  · exact aw_thr at_116_11 rfl rfl wc_ex
  · refine aw_iload at_116_5 rfl ?_
    refine aw_ic 8 at_116_6 ic_8 ?_
    refine aw_icmp_le at_116_8 ?_ ?_
    · refine aw_aload at_116_21 rfl ?_
      refine aw_getf at_116_22 gf_800 ?_
      refine aw_iload at_116_25 rfl ?_
      refine aw_cI at_116_26 rfl (c_99 (by omega) _ _) (fun _ h => by cases h) rfl (fun x1 S2 => ?_)
      refine aw_if_ne at_116_29 ?_ ?_
      · refine aw_aload at_116_42 rfl ?_
        refine aw_getf at_116_43 gf_800 ?_
        refine aw_lload at_116_46 rfl ?_
        refine aw_iload at_116_47 rfl ?_
        refine aw_cI at_116_48 rfl (c_100 (by omega) n _ _ _) (fun _ h => by cases h) rfl (fun x3 S4 => ?_)
        exact aw_rI at_116_51 rfl
      · exact aw_thr at_116_32 rfl rfl wc_ex
    · exact aw_thr at_116_11 rfl rfl wc_ex
theorem c_116 {X : amX} {d : Nat} {R : amS} {u : Nat → Int64} (hd : 3 ≤ d) (n : Nat) (l1 : Int64) (l3 : Int32) (S : amS) : CW X d 116 [.ref 0, .long l1, .int l3] (wc R u) S (g_116 n l1 l3 S) := cw_up (by omega) (fun d' h => by
  subst h
  exact cw_of rfl (by decide) (Nat.le_of_ble_eq_true rfl) rfl (fun e => t_116 (by omega) n l1 l3 S))
/-! 117: ListDesk.load()V -/
theorem at_117_0 : am_at am_m117 0 = some (.aload 0, 1, 0) := rfl
theorem at_117_1 : am_at am_m117 1 = some (.getfield 802, 3, 39) := rfl
theorem at_117_4 : am_at am_m117 4 = some (.invokevirtual 30, 3, 63) := rfl
theorem at_117_7 : am_at am_m117 7 = some (.aload 0, 1, 0) := rfl
theorem at_117_8 : am_at am_m117 8 = some (.getfield 801, 3, 30) := rfl
theorem at_117_11 : am_at am_m117 11 = some (.invokevirtual 71, 3, 66) := rfl
theorem at_117_14 : am_at am_m117 14 = some (.aload 0, 1, 0) := rfl
theorem at_117_15 : am_at am_m117 15 = some (.getfield 802, 3, 39) := rfl
theorem at_117_18 : am_at am_m117 18 = some (.invokevirtual 31, 3, 69) := rfl
theorem at_117_21 : am_at am_m117 21 = some (.return_, 1, 0) := rfl
def g_117 (E : Int32 → amS → amQ) (n : Nat) (S : amS) : amQ := az_bV (g_30 S) fun S1 => az_bV (g_71 E n S1) fun S2 => az_bV (g_31 S2) fun S3 => some (.inl none, S3)
theorem t_117 {X : amX} {d dE e : Nat} {R : amS} {u : Nat → Int64} {E : Int32 → amS → amQ} (hE : ∀ dep S d', dE ≤ d' → CW X d' 73 [.ref 23, .int dep] (wc R u) S (E dep S)) (hd : dE + 5 ≤ d) (n : Nat)  (S : amS) : AW X d am_m117 (wc R u) e 0 [(0, .ref 0)] [] S (g_117 E n S) := by
  unfold g_117
  refine aw_aload at_117_0 rfl ?_
  refine aw_getf at_117_1 gf_802 ?_
  refine aw_cV at_117_4 rfl (c_30 (by omega) _) (fun _ h => by cases h) rfl (fun S1 => ?_)
  refine aw_aload at_117_7 rfl ?_
  refine aw_getf at_117_8 gf_801 ?_
  refine aw_cV at_117_11 rfl (c_71 hE (by omega) n _) (fun _ h => by cases h) rfl (fun S2 => ?_)
  refine aw_aload at_117_14 rfl ?_
  refine aw_getf at_117_15 gf_802 ?_
  refine aw_cV at_117_18 rfl (c_31 (by omega) _) (fun _ h => by cases h) rfl (fun S3 => ?_)
  exact aw_rV at_117_21 rfl
theorem c_117 {X : amX} {d dE : Nat} {R : amS} {u : Nat → Int64} {E : Int32 → amS → amQ} (hE : ∀ dep S d', dE ≤ d' → CW X d' 73 [.ref 23, .int dep] (wc R u) S (E dep S)) (hd : dE + 6 ≤ d) (n : Nat) (S : amS) : CW X d 117 [.ref 0] (wc R u) S (g_117 E n S) := cw_up (by omega) (fun d' h => by
  subst h
  exact cw_of rfl (by decide) (Nat.le_of_ble_eq_true rfl) rfl (fun e => t_117 hE (by omega) n S))
/-! 118: ListDesk.place()I -/
theorem at_118_0 : am_at am_m118 0 = some (.aload 0, 1, 0) := rfl
theorem at_118_1 : am_at am_m118 1 = some (.getfield 802, 3, 39) := rfl
theorem at_118_4 : am_at am_m118 4 = some (.getfield 10313, 3, 72) := rfl
theorem at_118_7 : am_at am_m118 7 = some (.ifCond .ne 20, 3, 0) := rfl
theorem at_118_10 : am_at am_m118 10 = some (.aload 0, 1, 0) := rfl
theorem at_118_11 : am_at am_m118 11 = some (.getfield 801, 3, 30) := rfl
theorem at_118_14 : am_at am_m118 14 = some (.getfield 10605, 3, 76) := rfl
theorem at_118_17 : am_at am_m118 17 = some (.goto 27, 3, 0) := rfl
theorem at_118_20 : am_at am_m118 20 = some (.aload 0, 1, 0) := rfl
theorem at_118_21 : am_at am_m118 21 = some (.getfield 802, 3, 39) := rfl
theorem at_118_24 : am_at am_m118 24 = some (.getfield 10314, 3, 79) := rfl
theorem at_118_27 : am_at am_m118 27 = some (.ireturn, 1, 0) := rfl
def g_118 (S : amS) : amQ := if (S.1 24 13) = 0 then some (.inl (some (.int (S.1 23 5))), S) else some (.inl (some (.int (S.1 24 14))), S)
theorem t_118 {X : amX} {d e : Nat} {R : amS} {u : Nat → Int64} (hd : 0 ≤ d)  (S : amS) : AW X d am_m118 (wc R u) e 0 [(0, .ref 0)] [] S (g_118 S) := by
  unfold g_118
  refine aw_aload at_118_0 rfl ?_
  refine aw_getf at_118_1 gf_802 ?_
  refine aw_getf at_118_4 gf_10313 ?_
  refine aw_if_ne at_118_7 ?_ ?_
  · refine aw_aload at_118_20 rfl ?_
    refine aw_getf at_118_21 gf_802 ?_
    refine aw_getf at_118_24 gf_10314 ?_
    exact aw_rI at_118_27 rfl
  · refine aw_aload at_118_10 rfl ?_
    refine aw_getf at_118_11 gf_801 ?_
    refine aw_getf at_118_14 gf_10605 ?_
    refine aw_goto at_118_17 ?_
    exact aw_rI at_118_27 rfl
theorem c_118 {X : amX} {d : Nat} {R : amS} {u : Nat → Int64} (hd : 1 ≤ d) (S : amS) : CW X d 118 [.ref 0] (wc R u) S (g_118 S) := cw_up (by omega) (fun d' h => by
  subst h
  exact cw_of rfl (by decide) (Nat.le_of_ble_eq_true rfl) rfl (fun e => t_118 (by omega) S))
/-! 119: ListDesk.run(I)I -/
theorem at_119_0 : am_at am_m119 0 = some (.iload 1, 1, 0) := rfl
theorem at_119_1 : am_at am_m119 1 = some (.iconst 1, 1, 0) := rfl
theorem at_119_2 : am_at am_m119 2 = some (.if_icmp .lt 12, 3, 0) := rfl
theorem at_119_5 : am_at am_m119 5 = some (.iload 1, 1, 0) := rfl
theorem at_119_6 : am_at am_m119 6 = some (.iconst 2000, 3, 2) := rfl
theorem at_119_9 : am_at am_m119 9 = some (.if_icmp .le 22, 3, 0) := rfl
theorem at_119_12 : am_at am_m119 12 = some (.new 1000, 3, 3) := rfl
theorem at_119_22 : am_at am_m119 22 = some (.aload 0, 1, 0) := rfl
theorem at_119_23 : am_at am_m119 23 = some (.getfield 802, 3, 39) := rfl
theorem at_119_26 : am_at am_m119 26 = some (.getfield 10313, 3, 72) := rfl
theorem at_119_29 : am_at am_m119 29 = some (.iconst 2, 1, 0) := rfl
theorem at_119_30 : am_at am_m119 30 = some (.if_icmp .eq 43, 3, 0) := rfl
theorem at_119_33 : am_at am_m119 33 = some (.new 1001, 3, 4) := rfl
theorem at_119_43 : am_at am_m119 43 = some (.aload 0, 1, 0) := rfl
theorem at_119_44 : am_at am_m119 44 = some (.getfield 802, 3, 39) := rfl
theorem at_119_47 : am_at am_m119 47 = some (.iload 1, 1, 0) := rfl
theorem at_119_48 : am_at am_m119 48 = some (.invokevirtual 32, 3, 86) := rfl
theorem at_119_51 : am_at am_m119 51 = some (.ireturn, 1, 0) := rfl
def g_119 (n : Nat) (l1 : Int32) (S : amS) : amQ := if l1 < 1 then some (.inr 0, S) else if l1 ≤ 2000 then if (S.1 24 13) = 2 then az_bI (g_32 n l1 S) fun x1 S2 => some (.inl (some (.int x1)), S2) else some (.inr 1, S) else some (.inr 0, S)
theorem t_119 {X : amX} {d e : Nat} {R : amS} {u : Nat → Int64} (hd : 6 ≤ d) (n : Nat)  (l1 : Int32) (S : amS) : AW X d am_m119 (wc R u) e 0 [(0, .ref 0), (1, .int l1)] [] S (g_119 n l1 S) := by
  unfold g_119
  refine aw_iload at_119_0 rfl ?_
  refine aw_ic 1 at_119_1 ic_1 ?_
  refine aw_icmp_lt at_119_2 ?_ ?_
  · exact aw_thr at_119_12 rfl rfl wc_ex
  · refine aw_iload at_119_5 rfl ?_
    refine aw_ic 2000 at_119_6 ic_2000 ?_
    refine aw_icmp_le at_119_9 ?_ ?_
    · refine aw_aload at_119_22 rfl ?_
      refine aw_getf at_119_23 gf_802 ?_
      refine aw_getf at_119_26 gf_10313 ?_
      refine aw_ic 2 at_119_29 ic_2 ?_
      refine aw_icmp_eq at_119_30 ?_ ?_
      · refine aw_aload at_119_43 rfl ?_
        refine aw_getf at_119_44 gf_802 ?_
        refine aw_iload at_119_47 rfl ?_
        refine aw_cI at_119_48 rfl (c_32 (by omega) n _ _) (fun _ h => by cases h) rfl (fun x1 S2 => ?_)
        exact aw_rI at_119_51 rfl
      · exact aw_thr at_119_33 rfl rfl wc_ex
    · exact aw_thr at_119_12 rfl rfl wc_ex
theorem c_119 {X : amX} {d : Nat} {R : amS} {u : Nat → Int64} (hd : 7 ≤ d) (n : Nat) (l1 : Int32) (S : amS) : CW X d 119 [.ref 0, .int l1] (wc R u) S (g_119 n l1 S) := cw_up (by omega) (fun d' h => by
  subst h
  exact cw_of rfl (by decide) (Nat.le_of_ble_eq_true rfl) rfl (fun e => t_119 (by omega) n l1 S))
/-! 120: ListDesk.status()I -/
theorem at_120_0 : am_at am_m120 0 = some (.aload 0, 1, 0) := rfl
theorem at_120_1 : am_at am_m120 1 = some (.getfield 802, 3, 39) := rfl
theorem at_120_4 : am_at am_m120 4 = some (.getfield 10313, 3, 72) := rfl
theorem at_120_7 : am_at am_m120 7 = some (.ireturn, 1, 0) := rfl
def g_120 (S : amS) : amQ := some (.inl (some (.int (S.1 24 13))), S)
theorem t_120 {X : amX} {d e : Nat} {R : amS} {u : Nat → Int64} (hd : 0 ≤ d)  (S : amS) : AW X d am_m120 (wc R u) e 0 [(0, .ref 0)] [] S (g_120 S) := by
  unfold g_120
  refine aw_aload at_120_0 rfl ?_
  refine aw_getf at_120_1 gf_802 ?_
  refine aw_getf at_120_4 gf_10313 ?_
  exact aw_rI at_120_7 rfl
theorem c_120 {X : amX} {d : Nat} {R : amS} {u : Nat → Int64} (hd : 1 ≤ d) (S : amS) : CW X d 120 [.ref 0] (wc R u) S (g_120 S) := cw_up (by omega) (fun d' h => by
  subst h
  exact cw_of rfl (by decide) (Nat.le_of_ble_eq_true rfl) rfl (fun e => t_120 (by omega) S))
/-! 121: ListDesk.look(I)I -/
theorem at_121_0 : am_at am_m121 0 = some (.iload 1, 1, 0) := rfl
theorem at_121_1 : am_at am_m121 1 = some (.tableswitch 70 0 3 #[32, 40, 51, 59], 31, 0) := rfl
theorem at_121_32 : am_at am_m121 32 = some (.aload 0, 1, 0) := rfl
theorem at_121_33 : am_at am_m121 33 = some (.getfield 802, 3, 39) := rfl
theorem at_121_36 : am_at am_m121 36 = some (.getfield 10312, 3, 90) := rfl
theorem at_121_39 : am_at am_m121 39 = some (.ireturn, 1, 0) := rfl
theorem at_121_40 : am_at am_m121 40 = some (.aload 0, 1, 0) := rfl
theorem at_121_41 : am_at am_m121 41 = some (.getfield 802, 3, 39) := rfl
theorem at_121_44 : am_at am_m121 44 = some (.getfield 10303, 3, 93) := rfl
theorem at_121_47 : am_at am_m121 47 = some (.getfield 10203, 3, 97) := rfl
theorem at_121_50 : am_at am_m121 50 = some (.ireturn, 1, 0) := rfl
theorem at_121_51 : am_at am_m121 51 = some (.aload 0, 1, 0) := rfl
theorem at_121_52 : am_at am_m121 52 = some (.getfield 802, 3, 39) := rfl
theorem at_121_55 : am_at am_m121 55 = some (.getfield 10311, 3, 102) := rfl
theorem at_121_58 : am_at am_m121 58 = some (.ireturn, 1, 0) := rfl
theorem at_121_59 : am_at am_m121 59 = some (.aload 0, 1, 0) := rfl
theorem at_121_60 : am_at am_m121 60 = some (.getfield 802, 3, 39) := rfl
theorem at_121_63 : am_at am_m121 63 = some (.getfield 10304, 3, 105) := rfl
theorem at_121_66 : am_at am_m121 66 = some (.getfield 10501, 3, 109) := rfl
theorem at_121_69 : am_at am_m121 69 = some (.ireturn, 1, 0) := rfl
theorem at_121_70 : am_at am_m121 70 = some (.new 1000, 3, 5) := rfl
def g_121 (l1 : Int32) (S : amS) : amQ := if l1 = 0 then (some (.inl (some (.int (S.1 24 12))), S)) else if l1 = 1 then (some (.inl (some (.int (S.1 25 3))), S)) else if l1 = 2 then (some (.inl (some (.int (S.1 24 11))), S)) else if l1 = 3 then (some (.inl (some (.int (S.1 29 1))), S)) else some (.inr 0, S)
theorem t_121 {X : amX} {d e : Nat} {R : amS} {u : Nat → Int64} (hd : 0 ≤ d)  (l1 : Int32) (S : amS) : AW X d am_m121 (wc R u) e 0 [(0, .ref 0), (1, .int l1)] [] S (g_121 l1 S) := by
  unfold g_121
  refine aw_iload at_121_0 rfl ?_
  refine aw_case 0 ?_ (fun h100 => ?_)
  · refine aw_tin 32 at_121_1 (by decide) ?_
    refine aw_aload at_121_32 rfl ?_
    refine aw_getf at_121_33 gf_802 ?_
    refine aw_getf at_121_36 gf_10312 ?_
    exact aw_rI at_121_39 rfl
  refine aw_case 1 ?_ (fun h101 => ?_)
  · refine aw_tin 40 at_121_1 (by decide) ?_
    refine aw_aload at_121_40 rfl ?_
    refine aw_getf at_121_41 gf_802 ?_
    refine aw_getf at_121_44 gf_10303 ?_
    refine aw_getf at_121_47 gf_10203 ?_
    exact aw_rI at_121_50 rfl
  refine aw_case 2 ?_ (fun h102 => ?_)
  · refine aw_tin 51 at_121_1 (by decide) ?_
    refine aw_aload at_121_51 rfl ?_
    refine aw_getf at_121_52 gf_802 ?_
    refine aw_getf at_121_55 gf_10311 ?_
    exact aw_rI at_121_58 rfl
  refine aw_case 3 ?_ (fun h103 => ?_)
  · refine aw_tin 59 at_121_1 (by decide) ?_
    refine aw_aload at_121_59 rfl ?_
    refine aw_getf at_121_60 gf_802 ?_
    refine aw_getf at_121_63 gf_10304 ?_
    refine aw_getf at_121_66 gf_10501 ?_
    exact aw_rI at_121_69 rfl
  have h100 := az_ne 0 (n := 0) (by decide) h100
  have h101 := az_ne 1 (n := 1) (by decide) h101
  have h102 := az_ne 2 (n := 2) (by decide) h102
  have h103 := az_ne 3 (n := 3) (by decide) h103
  refine aw_tout at_121_1 (by omega) ?_
  exact aw_thr at_121_70 rfl rfl wc_ex
theorem c_121 {X : amX} {d : Nat} {R : amS} {u : Nat → Int64} (hd : 1 ≤ d) (l1 : Int32) (S : amS) : CW X d 121 [.ref 0, .int l1] (wc R u) S (g_121 l1 S) := cw_up (by omega) (fun d' h => by
  subst h
  exact cw_of rfl (by decide) (Nat.le_of_ble_eq_true rfl) rfl (fun e => t_121 (by omega) l1 S))
/-! 122: ListDesk.out(I)I -/
theorem at_122_0 : am_at am_m122 0 = some (.aload 0, 1, 0) := rfl
theorem at_122_1 : am_at am_m122 1 = some (.getfield 802, 3, 39) := rfl
theorem at_122_4 : am_at am_m122 4 = some (.getfield 10304, 3, 105) := rfl
theorem at_122_7 : am_at am_m122 7 = some (.iload 1, 1, 0) := rfl
theorem at_122_8 : am_at am_m122 8 = some (.invokevirtual 68, 3, 116) := rfl
theorem at_122_11 : am_at am_m122 11 = some (.ifCond .ne 24, 3, 0) := rfl
theorem at_122_14 : am_at am_m122 14 = some (.new 1002, 3, 6) := rfl
theorem at_122_24 : am_at am_m122 24 = some (.aload 0, 1, 0) := rfl
theorem at_122_25 : am_at am_m122 25 = some (.getfield 802, 3, 39) := rfl
theorem at_122_28 : am_at am_m122 28 = some (.getfield 10304, 3, 105) := rfl
theorem at_122_31 : am_at am_m122 31 = some (.iload 1, 1, 0) := rfl
theorem at_122_32 : am_at am_m122 32 = some (.invokevirtual 69, 3, 124) := rfl
theorem at_122_35 : am_at am_m122 35 = some (.ireturn, 1, 0) := rfl
def g_122 (l1 : Int32) (S : amS) : amQ := az_bI (g_68 l1 S) fun x1 S2 => if x1 = 0 then some (.inr 2, S2) else az_bI (g_69 l1 S2) fun x3 S4 => some (.inl (some (.int x3)), S4)
theorem t_122 {X : amX} {d e : Nat} {R : amS} {u : Nat → Int64} (hd : 2 ≤ d)  (l1 : Int32) (S : amS) : AW X d am_m122 (wc R u) e 0 [(0, .ref 0), (1, .int l1)] [] S (g_122 l1 S) := by
  unfold g_122
  refine aw_aload at_122_0 rfl ?_
  refine aw_getf at_122_1 gf_802 ?_
  refine aw_getf at_122_4 gf_10304 ?_
  refine aw_iload at_122_7 rfl ?_
  refine aw_cI at_122_8 rfl (c_68 (by omega) _ _) (fun _ h => by cases h) rfl (fun x1 S2 => ?_)
  refine aw_if_ne at_122_11 ?_ ?_
  · refine aw_aload at_122_24 rfl ?_
    refine aw_getf at_122_25 gf_802 ?_
    refine aw_getf at_122_28 gf_10304 ?_
    refine aw_iload at_122_31 rfl ?_
    refine aw_cI at_122_32 rfl (c_69 (by omega) _ _) (fun _ h => by cases h) rfl (fun x3 S4 => ?_)
    exact aw_rI at_122_35 rfl
  · exact aw_thr at_122_14 rfl rfl wc_ex
theorem c_122 {X : amX} {d : Nat} {R : amS} {u : Nat → Int64} (hd : 3 ≤ d) (l1 : Int32) (S : amS) : CW X d 122 [.ref 0, .int l1] (wc R u) S (g_122 l1 S) := cw_up (by omega) (fun d' h => by
  subst h
  exact cw_of rfl (by decide) (Nat.le_of_ble_eq_true rfl) rfl (fun e => t_122 (by omega) l1 S))
