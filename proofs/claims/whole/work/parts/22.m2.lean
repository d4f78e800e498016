/-! 154: ListDeskModel.load()V -/
theorem at_154_0 : am_at am_m154 0 = some (.aload 0, 1, 0) := rfl
theorem at_154_1 : am_at am_m154 1 = some (.aload 0, 1, 0) := rfl
theorem at_154_2 : am_at am_m154 2 = some (.getfield 902, 3, 120) := rfl
theorem at_154_5 : am_at am_m154 5 = some (.putfield 903, 3, 134) := rfl
theorem at_154_8 : am_at am_m154 8 = some (.aload 0, 1, 0) := rfl
theorem at_154_9 : am_at am_m154 9 = some (.iconst 0, 1, 0) := rfl
theorem at_154_10 : am_at am_m154 10 = some (.putfield 902, 3, 120) := rfl
theorem at_154_13 : am_at am_m154 13 = some (.aload 0, 1, 0) := rfl
theorem at_154_14 : am_at am_m154 14 = some (.iconst 0, 1, 0) := rfl
theorem at_154_15 : am_at am_m154 15 = some (.putfield 929, 3, 226) := rfl
theorem at_154_18 : am_at am_m154 18 = some (.aload 0, 1, 0) := rfl
theorem at_154_19 : am_at am_m154 19 = some (.iconst 0, 1, 0) := rfl
theorem at_154_20 : am_at am_m154 20 = some (.putfield 930, 3, 229) := rfl
theorem at_154_23 : am_at am_m154 23 = some (.aload 0, 1, 0) := rfl
theorem at_154_24 : am_at am_m154 24 = some (.iconst 0, 1, 0) := rfl
theorem at_154_25 : am_at am_m154 25 = some (.putfield 931, 3, 232) := rfl
theorem at_154_28 : am_at am_m154 28 = some (.aload 0, 1, 0) := rfl
theorem at_154_29 : am_at am_m154 29 = some (.iconst 0, 1, 0) := rfl
theorem at_154_30 : am_at am_m154 30 = some (.putfield 932, 3, 235) := rfl
theorem at_154_33 : am_at am_m154 33 = some (.aload 0, 1, 0) := rfl
theorem at_154_34 : am_at am_m154 34 = some (.iconst 0, 1, 0) := rfl
theorem at_154_35 : am_at am_m154 35 = some (.putfield 955, 3, 238) := rfl
theorem at_154_38 : am_at am_m154 38 = some (.aload 0, 1, 0) := rfl
theorem at_154_39 : am_at am_m154 39 = some (.invokevirtual 152, 3, 241) := rfl
theorem at_154_42 : am_at am_m154 42 = some (.aload 0, 1, 0) := rfl
theorem at_154_43 : am_at am_m154 43 = some (.aload 0, 1, 0) := rfl
theorem at_154_44 : am_at am_m154 44 = some (.getfield 905, 3, 127) := rfl
theorem at_154_47 : am_at am_m154 47 = some (.iconst 0, 1, 0) := rfl
theorem at_154_48 : am_at am_m154 48 = some (.invokevirtual 128, 3, 123) := rfl
theorem at_154_51 : am_at am_m154 51 = some (.ifCond .eq 55, 3, 0) := rfl
theorem at_154_54 : am_at am_m154 54 = some (.return_, 1, 0) := rfl
theorem at_154_55 : am_at am_m154 55 = some (.aload 0, 1, 0) := rfl
theorem at_154_56 : am_at am_m154 56 = some (.invokevirtual 153, 3, 244) := rfl
theorem at_154_59 : am_at am_m154 59 = some (.aload 0, 1, 0) := rfl
theorem at_154_60 : am_at am_m154 60 = some (.iconst 2, 1, 0) := rfl
theorem at_154_61 : am_at am_m154 61 = some (.putfield 929, 3, 226) := rfl
theorem at_154_64 : am_at am_m154 64 = some (.aload 0, 1, 0) := rfl
theorem at_154_65 : am_at am_m154 65 = some (.iconst 0, 1, 0) := rfl
theorem at_154_66 : am_at am_m154 66 = some (.putfield 936, 3, 247) := rfl
theorem at_154_69 : am_at am_m154 69 = some (.aload 0, 1, 0) := rfl
theorem at_154_70 : am_at am_m154 70 = some (.iconst 0, 1, 0) := rfl
theorem at_154_71 : am_at am_m154 71 = some (.putfield 939, 3, 250) := rfl
theorem at_154_74 : am_at am_m154 74 = some (.aload 0, 1, 0) := rfl
theorem at_154_75 : am_at am_m154 75 = some (.iconst 0, 1, 0) := rfl
theorem at_154_76 : am_at am_m154 76 = some (.putfield 949, 3, 253) := rfl
theorem at_154_79 : am_at am_m154 79 = some (.aload 0, 1, 0) := rfl
theorem at_154_80 : am_at am_m154 80 = some (.iconst 0, 1, 0) := rfl
theorem at_154_81 : am_at am_m154 81 = some (.putfield 951, 3, 256) := rfl
theorem at_154_84 : am_at am_m154 84 = some (.aload 0, 1, 0) := rfl
theorem at_154_85 : am_at am_m154 85 = some (.iconst (-1), 1, 0) := rfl
theorem at_154_86 : am_at am_m154 86 = some (.putfield 952, 3, 259) := rfl
theorem at_154_89 : am_at am_m154 89 = some (.iconst 0, 1, 0) := rfl
theorem at_154_90 : am_at am_m154 90 = some (.istore 1, 1, 0) := rfl
theorem at_154_91 : am_at am_m154 91 = some (.iload 1, 1, 0) := rfl
theorem at_154_92 : am_at am_m154 92 = some (.iconst 120000, 2, 89) := rfl
theorem at_154_94 : am_at am_m154 94 = some (.if_icmp .ge 124, 3, 0) := rfl
theorem at_154_97 : am_at am_m154 97 = some (.aload 0, 1, 0) := rfl
theorem at_154_98 : am_at am_m154 98 = some (.getfield 942, 3, 86) := rfl
theorem at_154_101 : am_at am_m154 101 = some (.iload 1, 1, 0) := rfl
theorem at_154_102 : am_at am_m154 102 = some (.iload 1, 1, 0) := rfl
theorem at_154_103 : am_at am_m154 103 = some (.iconst 1, 1, 0) := rfl
theorem at_154_104 : am_at am_m154 104 = some (.iadd, 1, 0) := rfl
theorem at_154_105 : am_at am_m154 105 = some (.iconst 120000, 2, 89) := rfl
theorem at_154_107 : am_at am_m154 107 = some (.if_icmp .ge 116, 3, 0) := rfl
theorem at_154_110 : am_at am_m154 110 = some (.iload 1, 1, 0) := rfl
theorem at_154_111 : am_at am_m154 111 = some (.iconst 1, 1, 0) := rfl
theorem at_154_112 : am_at am_m154 112 = some (.iadd, 1, 0) := rfl
theorem at_154_113 : am_at am_m154 113 = some (.goto 117, 3, 0) := rfl
theorem at_154_116 : am_at am_m154 116 = some (.iconst (-1), 1, 0) := rfl
theorem at_154_117 : am_at am_m154 117 = some (.iastore, 1, 0) := rfl
theorem at_154_118 : am_at am_m154 118 = some (.iinc 1 1, 3, 0) := rfl
theorem at_154_121 : am_at am_m154 121 = some (.goto 91, 3, 0) := rfl
theorem at_154_124 : am_at am_m154 124 = some (.aload 0, 1, 0) := rfl
theorem at_154_125 : am_at am_m154 125 = some (.iconst 0, 1, 0) := rfl
theorem at_154_126 : am_at am_m154 126 = some (.putfield 944, 3, 262) := rfl
theorem at_154_129 : am_at am_m154 129 = some (.aload 0, 1, 0) := rfl
theorem at_154_130 : am_at am_m154 130 = some (.iconst (-1), 1, 0) := rfl
theorem at_154_131 : am_at am_m154 131 = some (.putfield 953, 3, 265) := rfl
theorem at_154_134 : am_at am_m154 134 = some (.aload 0, 1, 0) := rfl
theorem at_154_135 : am_at am_m154 135 = some (.aload 0, 1, 0) := rfl
theorem at_154_136 : am_at am_m154 136 = some (.getfield 911, 3, 26) := rfl
theorem at_154_139 : am_at am_m154 139 = some (.iconst 0, 1, 0) := rfl
theorem at_154_140 : am_at am_m154 140 = some (.iaload, 1, 0) := rfl
theorem at_154_141 : am_at am_m154 141 = some (.invokevirtual 166, 3, 268) := rfl
theorem at_154_144 : am_at am_m154 144 = some (.return_, 1, 0) := rfl
def g_154_117 (n : Nat) (H91 : Int32 → amS → amQ) (l1 : Int32) (s1 : Int32) (s2 : Int32) (S : amS) : amQ := az_ck s1 120000 (az_st (sI S 58 s1.toNatClampNeg s2) fun S1 => H91 (l1 + 1) S1)
theorem t_154_117 {X : amX} {d e : Nat} {S0 : amS} {u : Nat → Int64} {H91 : Int32 → amS → amQ} (hd : 6 ≤ d) (n : Nat) (hH91 : ∀ (l1 : Int32) (S : amS), AW X d am_m154 (wm S0 u) e 91 [(0, .ref 34), (1, .int l1)] [] S (H91 l1 S)) (l1 : Int32) (s1 : Int32) (s2 : Int32) (S : amS) : AW X d am_m154 (wm S0 u) e 117 [(0, .ref 34), (1, .int l1)] [.int s2, .int s1, .ref 58] S (g_154_117 n H91 l1 s1 s2 S) := by
  unfold g_154_117
  refine aw_iast at_154_117 ar_58 (as_58 _ _) (fun S1 => ?_)
  refine aw_iinc at_154_118 rfl (by decide) rfl ic_1 rfl ?_
  refine aw_goto at_154_121 ?_
  exact aw_sub (al_cons rfl (al_cons rfl al_nil)) (hH91 (l1 + 1) S1)
def h_154_91 (n : Nat) (H91 : Int32 → amS → amQ) (l1 : Int32) (S : amS) : amQ := if 120000 ≤ l1 then az_st (sI S 34 44 0) fun S1 => az_st (sI S1 34 53 ((-1))) fun S2 => az_ck 0 256 (az_bV (g_166 (S2.1 39 (0 : Int32).toNatClampNeg) S2) fun S3 => some (.inl none, S3)) else if 120000 ≤ (l1 + 1) then g_154_117 n H91 l1 l1 ((-1)) S else g_154_117 n H91 l1 l1 (l1 + 1) S
def g_154_91 : Nat → Int32 → amS → amQ
  | 0 => fun _ _ => none
  | n + 1 => h_154_91 n (g_154_91 n)
theorem th_154_91 {X : amX} {d e : Nat} {S0 : amS} {u : Nat → Int64} {H91 : Int32 → amS → amQ} (hd : 6 ≤ d) (n : Nat) (hH91 : ∀ (l1 : Int32) (S : amS), AW X d am_m154 (wm S0 u) e 91 [(0, .ref 34), (1, .int l1)] [] S (H91 l1 S)) (l1 : Int32)  (S : amS) : AW X d am_m154 (wm S0 u) e 91 [(0, .ref 34), (1, .int l1)] [] S (h_154_91 n H91 l1 S) := by
  unfold h_154_91
  refine aw_iload at_154_91 rfl ?_
  refine aw_ic 120000 at_154_92 ic_120000 ?_
  refine aw_icmp_ge at_154_94 ?_ ?_
  · refine aw_aload at_154_124 rfl ?_
    refine aw_ic 0 at_154_125 ic_0 ?_
    refine aw_putf at_154_126 (pf_944 _) (fun S1 => ?_)
    refine aw_aload at_154_129 rfl ?_
    refine aw_ic (-1) at_154_130 ic_m1 ?_
    refine aw_putf at_154_131 (pf_953 _) (fun S2 => ?_)
    refine aw_aload at_154_134 rfl ?_
    refine aw_aload at_154_135 rfl ?_
    refine aw_getf at_154_136 gf_911 ?_
    refine aw_ic 0 at_154_139 ic_0 ?_
    refine aw_iald at_154_140 ai_39 ?_
    refine aw_cV at_154_141 rfl (c_166 (by omega) _ _) (fun _ h => by cases h) rfl (fun S3 => ?_)
    exact aw_rV at_154_144 rfl
  · refine aw_aload at_154_97 rfl ?_
    refine aw_getf at_154_98 gf_942 ?_
    refine aw_iload at_154_101 rfl ?_
    refine aw_iload at_154_102 rfl ?_
    refine aw_ic 1 at_154_103 ic_1 ?_
    refine aw_iadd at_154_104 ?_
    refine aw_ic 120000 at_154_105 ic_120000 ?_
    refine aw_icmp_ge at_154_107 ?_ ?_
    · refine aw_ic (-1) at_154_116 ic_m1 ?_
      exact aw_sub (al_cons rfl (al_cons rfl al_nil)) (t_154_117 (by omega) n hH91 l1 l1 ((-1)) S)
    · refine aw_iload at_154_110 rfl ?_
      refine aw_ic 1 at_154_111 ic_1 ?_
      refine aw_iadd at_154_112 ?_
      refine aw_goto at_154_113 ?_
      exact aw_sub (al_cons rfl (al_cons rfl al_nil)) (t_154_117 (by omega) n hH91 l1 l1 (l1 + 1) S)
theorem t_154_91 {X : amX} {d e : Nat} {S0 : amS} {u : Nat → Int64} (hd : 6 ≤ d) : ∀ (n : Nat)  (l1 : Int32) (S : amS), AW X d am_m154 (wm S0 u) e 91 [(0, .ref 34), (1, .int l1)] [] S (g_154_91 n l1 S)
  | 0, _, _ => aw_none
  | n + 1, l1, S => th_154_91 hd n (t_154_91 hd n) l1 S
def g_154 (n : Nat) (S : amS) : amQ := az_st (sI S 34 3 (S.1 34 2)) fun S1 => az_st (sI S1 34 2 0) fun S2 => az_st (sI S2 34 29 0) fun S3 => az_st (sI S3 34 30 0) fun S4 => az_st (sI S4 34 31 0) fun S5 => az_st (sI S5 34 32 0) fun S6 => az_st (sI S6 34 55 0) fun S7 => az_bV (g_152 n S7) fun S8 => az_bI (g_128 (S8.1 34 5) 0 S8) fun x9 S10 => if x9 = 0 then az_bV (g_153 n S10) fun S11 => az_st (sI S11 34 29 2) fun S12 => az_st (sI S12 34 36 0) fun S13 => az_st (sI S13 34 39 0) fun S14 => az_st (sI S14 34 49 0) fun S15 => az_st (sI S15 34 51 0) fun S16 => az_st (sI S16 34 52 ((-1))) fun S17 => g_154_91 n 0 S17 else some (.inl none, S10)
theorem t_154 {X : amX} {d e : Nat} {S0 : amS} {u : Nat → Int64} (hd : 6 ≤ d) (n : Nat)  (S : amS) : AW X d am_m154 (wm S0 u) e 0 [(0, .ref 34)] [] S (g_154 n S) := by
  unfold g_154
  refine aw_aload at_154_0 rfl ?_
  refine aw_aload at_154_1 rfl ?_
  refine aw_getf at_154_2 gf_902 ?_
  refine aw_putf at_154_5 (pf_903 _) (fun S1 => ?_)
  refine aw_aload at_154_8 rfl ?_
  refine aw_ic 0 at_154_9 ic_0 ?_
  refine aw_putf at_154_10 (pf_902 _) (fun S2 => ?_)
  refine aw_aload at_154_13 rfl ?_
  refine aw_ic 0 at_154_14 ic_0 ?_
  refine aw_putf at_154_15 (pf_929 _) (fun S3 => ?_)
  refine aw_aload at_154_18 rfl ?_
  refine aw_ic 0 at_154_19 ic_0 ?_
  refine aw_putf at_154_20 (pf_930 _) (fun S4 => ?_)
  refine aw_aload at_154_23 rfl ?_
  refine aw_ic 0 at_154_24 ic_0 ?_
  refine aw_putf at_154_25 (pf_931 _) (fun S5 => ?_)
  refine aw_aload at_154_28 rfl ?_
  refine aw_ic 0 at_154_29 ic_0 ?_
  refine aw_putf at_154_30 (pf_932 _) (fun S6 => ?_)
  refine aw_aload at_154_33 rfl ?_
  refine aw_ic 0 at_154_34 ic_0 ?_
  refine aw_putf at_154_35 (pf_955 _) (fun S7 => ?_)
  refine aw_aload at_154_38 rfl ?_
  refine aw_cV at_154_39 rfl (c_152 (by omega) n _) (fun _ h => by cases h) rfl (fun S8 => ?_)
  refine aw_aload at_154_42 rfl ?_
  refine aw_aload at_154_43 rfl ?_
  refine aw_getf at_154_44 gf_905 ?_
  refine aw_ic 0 at_154_47 ic_0 ?_
  refine aw_cI at_154_48 rfl (c_128 (by omega) _ _ _) (fun _ h => by cases h) rfl (fun x9 S10 => ?_)
  refine aw_if_eq at_154_51 ?_ ?_
  · refine aw_aload at_154_55 rfl ?_
    refine aw_cV at_154_56 rfl (c_153 (by omega) n _) (fun _ h => by cases h) rfl (fun S11 => ?_)
    refine aw_aload at_154_59 rfl ?_
    refine aw_ic 2 at_154_60 ic_2 ?_
    refine aw_putf at_154_61 (pf_929 _) (fun S12 => ?_)
    refine aw_aload at_154_64 rfl ?_
    refine aw_ic 0 at_154_65 ic_0 ?_
    refine aw_putf at_154_66 (pf_936 _) (fun S13 => ?_)
    refine aw_aload at_154_69 rfl ?_
    refine aw_ic 0 at_154_70 ic_0 ?_
    refine aw_putf at_154_71 (pf_939 _) (fun S14 => ?_)
    refine aw_aload at_154_74 rfl ?_
    refine aw_ic 0 at_154_75 ic_0 ?_
    refine aw_putf at_154_76 (pf_949 _) (fun S15 => ?_)
    refine aw_aload at_154_79 rfl ?_
    refine aw_ic 0 at_154_80 ic_0 ?_
    refine aw_putf at_154_81 (pf_951 _) (fun S16 => ?_)
    refine aw_aload at_154_84 rfl ?_
    refine aw_ic (-1) at_154_85 ic_m1 ?_
    refine aw_putf at_154_86 (pf_952 _) (fun S17 => ?_)
    refine aw_ic 0 at_154_89 ic_0 ?_
    refine aw_istore at_154_90 (by decide) rfl rfl ?_
    exact aw_sub (al_cons rfl (al_cons rfl al_nil)) (t_154_91 (by omega) n 0 S17)
  · exact aw_rV at_154_54 rfl
theorem c_154 {X : amX} {d : Nat} {S0 : amS} {u : Nat → Int64} (hd : 7 ≤ d) (n : Nat) (S : amS) : CW X d 154 [.ref 34] (wm S0 u) S (g_154 n S) := cw_up (by omega) (fun d' h => by
  subst h
  exact cw_of rfl (by decide) (Nat.le_of_ble_eq_true rfl) rfl (fun e => t_154 (by omega) n S))
/-! 155: ListDeskModel.ofInt(I)J -/
theorem at_155_0 : am_at am_m155 0 = some (.iload 0, 1, 0) := rfl
theorem at_155_1 : am_at am_m155 1 = some (.i2l, 1, 0) := rfl
theorem at_155_2 : am_at am_m155 2 = some (.jsr_w 4294967295, 3, 271) := rfl
theorem at_155_5 : am_at am_m155 5 = some (.land, 1, 0) := rfl
theorem at_155_6 : am_at am_m155 6 = some (.lreturn, 1, 0) := rfl
def g_155 (l0 : Int32) (S : amS) : amQ := some (.inl (some (.long ((Int32.toInt64 l0) &&& 4294967295))), S)
theorem t_155 {X : amX} {d e : Nat} {S0 : amS} {u : Nat → Int64} (hd : 0 ≤ d)  (l0 : Int32) (S : amS) : AW X d am_m155 (wm S0 u) e 0 [(0, .int l0)] [] S (g_155 l0 S) := by
  unfold g_155
  refine aw_iload at_155_0 rfl ?_
  refine aw_i2l at_155_1 ?_
  refine aw_lc 4294967295 at_155_2 (by decide) ?_
  refine aw_land at_155_5 ?_
  exact aw_rJ at_155_6 rfl
theorem c_155 {X : amX} {d : Nat} {S0 : amS} {u : Nat → Int64} (hd : 1 ≤ d) (l0 : Int32) (S : amS) : CW X d 155 [.int l0] (wm S0 u) S (g_155 l0 S) := cw_up (by omega) (fun d' h => by
  subst h
  exact cw_of rfl (by decide) (Nat.le_of_ble_eq_true rfl) rfl (fun e => t_155 (by omega) l0 S))
/-! 156: ListDeskModel.made(II)J -/
theorem at_156_0 : am_at am_m156 0 = some (.iload 0, 1, 0) := rfl
theorem at_156_1 : am_at am_m156 1 = some (.i2l, 1, 0) := rfl
theorem at_156_2 : am_at am_m156 2 = some (.iconst 32, 2, 1) := rfl
theorem at_156_4 : am_at am_m156 4 = some (.lshl, 1, 0) := rfl
theorem at_156_5 : am_at am_m156 5 = some (.iload 1, 1, 0) := rfl
theorem at_156_6 : am_at am_m156 6 = some (.i2l, 1, 0) := rfl
theorem at_156_7 : am_at am_m156 7 = some (.lor, 1, 0) := rfl
theorem at_156_8 : am_at am_m156 8 = some (.lreturn, 1, 0) := rfl
def g_156 (l0 : Int32) (l1 : Int32) (S : amS) : amQ := some (.inl (some (.long (((Int32.toInt64 l0) <<< ((32 : Int32).toInt64 &&& 63)) ||| (Int32.toInt64 l1)))), S)
theorem t_156 {X : amX} {d e : Nat} {S0 : amS} {u : Nat → Int64} (hd : 0 ≤ d)  (l0 : Int32) (l1 : Int32) (S : amS) : AW X d am_m156 (wm S0 u) e 0 [(0, .int l0), (1, .int l1)] [] S (g_156 l0 l1 S) := by
  unfold g_156
  refine aw_iload at_156_0 rfl ?_
  refine aw_i2l at_156_1 ?_
  refine aw_ic 32 at_156_2 ic_32 ?_
  refine aw_lshl at_156_4 ?_
  refine aw_iload at_156_5 rfl ?_
  refine aw_i2l at_156_6 ?_
  refine aw_lor at_156_7 ?_
  exact aw_rJ at_156_8 rfl
theorem c_156 {X : amX} {d : Nat} {S0 : amS} {u : Nat → Int64} (hd : 1 ≤ d) (l0 : Int32) (l1 : Int32) (S : amS) : CW X d 156 [.int l0, .int l1] (wm S0 u) S (g_156 l0 l1 S) := cw_up (by omega) (fun d' h => by
  subst h
  exact cw_of rfl (by decide) (Nat.le_of_ble_eq_true rfl) rfl (fun e => t_156 (by omega) l0 l1 S))
/-! 157: ListDeskModel.kindOf(J)I -/
theorem at_157_0 : am_at am_m157 0 = some (.lload 0, 1, 0) := rfl
theorem at_157_1 : am_at am_m157 1 = some (.iconst 32, 2, 1) := rfl
theorem at_157_3 : am_at am_m157 3 = some (.lshr, 1, 0) := rfl
theorem at_157_4 : am_at am_m157 4 = some (.l2i, 1, 0) := rfl
theorem at_157_5 : am_at am_m157 5 = some (.ireturn, 1, 0) := rfl
def g_157 (l0 : Int64) (S : amS) : amQ := some (.inl (some (.int (Int64.toInt32 (l0 >>> ((32 : Int32).toInt64 &&& 63))))), S)
theorem t_157 {X : amX} {d e : Nat} {S0 : amS} {u : Nat → Int64} (hd : 0 ≤ d)  (l0 : Int64) (S : amS) : AW X d am_m157 (wm S0 u) e 0 [(0, .long l0)] [] S (g_157 l0 S) := by
  unfold g_157
  refine aw_lload at_157_0 rfl ?_
  refine aw_ic 32 at_157_1 ic_32 ?_
  refine aw_lshr at_157_3 ?_
  refine aw_l2i at_157_4 ?_
  exact aw_rI at_157_5 rfl
theorem c_157 {X : amX} {d : Nat} {S0 : amS} {u : Nat → Int64} (hd : 1 ≤ d) (l0 : Int64) (S : amS) : CW X d 157 [.long l0] (wm S0 u) S (g_157 l0 S) := cw_up (by omega) (fun d' h => by
  subst h
  exact cw_of rfl (by decide) (Nat.le_of_ble_eq_true rfl) rfl (fun e => t_157 (by omega) l0 S))
/-! 159: ListDeskModel.stop(II)V -/
theorem at_159_0 : am_at am_m159 0 = some (.aload 0, 1, 0) := rfl
theorem at_159_1 : am_at am_m159 1 = some (.iload 1, 1, 0) := rfl
theorem at_159_2 : am_at am_m159 2 = some (.putfield 929, 3, 226) := rfl
theorem at_159_5 : am_at am_m159 5 = some (.aload 0, 1, 0) := rfl
theorem at_159_6 : am_at am_m159 6 = some (.aload 0, 1, 0) := rfl
theorem at_159_7 : am_at am_m159 7 = some (.getfield 909, 3, 20) := rfl
theorem at_159_10 : am_at am_m159 10 = some (.iload 2, 1, 0) := rfl
theorem at_159_11 : am_at am_m159 11 = some (.iaload, 1, 0) := rfl
theorem at_159_12 : am_at am_m159 12 = some (.putfield 906, 3, 13) := rfl
theorem at_159_15 : am_at am_m159 15 = some (.return_, 1, 0) := rfl
def g_159 (l1 : Int32) (l2 : Int32) (S : amS) : amQ := az_st (sI S 34 29 l1) fun S1 => az_ck l2 256 (az_st (sI S1 34 6 (S1.1 37 l2.toNatClampNeg)) fun S2 => some (.inl none, S2))
theorem t_159 {X : amX} {d e : Nat} {S0 : amS} {u : Nat → Int64} (hd : 0 ≤ d)  (l1 : Int32) (l2 : Int32) (S : amS) : AW X d am_m159 (wm S0 u) e 0 [(0, .ref 34), (1, .int l1), (2, .int l2)] [] S (g_159 l1 l2 S) := by
  unfold g_159
  refine aw_aload at_159_0 rfl ?_
  refine aw_iload at_159_1 rfl ?_
  refine aw_putf at_159_2 (pf_929 _) (fun S1 => ?_)
  refine aw_aload at_159_5 rfl ?_
  refine aw_aload at_159_6 rfl ?_
  refine aw_getf at_159_7 gf_909 ?_
  refine aw_iload at_159_10 rfl ?_
  refine aw_iald at_159_11 ai_37 ?_
  refine aw_putf at_159_12 (pf_906 _) (fun S2 => ?_)
  exact aw_rV at_159_15 rfl
theorem c_159 {X : amX} {d : Nat} {S0 : amS} {u : Nat → Int64} (hd : 1 ≤ d) (l1 : Int32) (l2 : Int32) (S : amS) : CW X d 159 [.ref 34, .int l1, .int l2] (wm S0 u) S (g_159 l1 l2 S) := cw_up (by omega) (fun d' h => by
  subst h
  exact cw_of rfl (by decide) (Nat.le_of_ble_eq_true rfl) rfl (fun e => t_159 (by omega) l1 l2 S))
/-! 158: ListDeskModel.objects(II)Z -/
theorem at_158_0 : am_at am_m158 0 = some (.aload 0, 1, 0) := rfl
theorem at_158_1 : am_at am_m158 1 = some (.getfield 931, 3, 232) := rfl
theorem at_158_4 : am_at am_m158 4 = some (.iload 1, 1, 0) := rfl
theorem at_158_5 : am_at am_m158 5 = some (.iadd, 1, 0) := rfl
theorem at_158_6 : am_at am_m158 6 = some (.iconst 2000, 3, 2) := rfl
theorem at_158_9 : am_at am_m158 9 = some (.if_icmp .le 27, 3, 0) := rfl
theorem at_158_12 : am_at am_m158 12 = some (.aload 0, 1, 0) := rfl
theorem at_158_13 : am_at am_m158 13 = some (.iconst 2000, 3, 2) := rfl
theorem at_158_16 : am_at am_m158 16 = some (.putfield 931, 3, 232) := rfl
theorem at_158_19 : am_at am_m158 19 = some (.aload 0, 1, 0) := rfl
theorem at_158_20 : am_at am_m158 20 = some (.iconst 5, 1, 0) := rfl
theorem at_158_21 : am_at am_m158 21 = some (.iload 2, 1, 0) := rfl
theorem at_158_22 : am_at am_m158 22 = some (.invokevirtual 159, 3, 273) := rfl
theorem at_158_25 : am_at am_m158 25 = some (.iconst 0, 1, 0) := rfl
theorem at_158_26 : am_at am_m158 26 = some (.ireturn, 1, 0) := rfl
theorem at_158_27 : am_at am_m158 27 = some (.aload 0, 1, 0) := rfl
theorem at_158_28 : am_at am_m158 28 = some (.dup, 1, 0) := rfl
theorem at_158_29 : am_at am_m158 29 = some (.getfield 931, 3, 232) := rfl
theorem at_158_32 : am_at am_m158 32 = some (.iload 1, 1, 0) := rfl
theorem at_158_33 : am_at am_m158 33 = some (.iadd, 1, 0) := rfl
theorem at_158_34 : am_at am_m158 34 = some (.putfield 931, 3, 232) := rfl
theorem at_158_37 : am_at am_m158 37 = some (.iconst 1, 1, 0) := rfl
theorem at_158_38 : am_at am_m158 38 = some (.ireturn, 1, 0) := rfl
def g_158 (l1 : Int32) (l2 : Int32) (S : amS) : amQ := if ((S.1 34 31) + l1) ≤ 2000 then az_st (sI S 34 31 ((S.1 34 31) + l1)) fun S1 => some (.inl (some (.int 1)), S1) else az_st (sI S 34 31 2000) fun S2 => az_bV (g_159 5 l2 S2) fun S3 => some (.inl (some (.int 0)), S3)
theorem t_158 {X : amX} {d e : Nat} {S0 : amS} {u : Nat → Int64} (hd : 1 ≤ d)  (l1 : Int32) (l2 : Int32) (S : amS) : AW X d am_m158 (wm S0 u) e 0 [(0, .ref 34), (1, .int l1), (2, .int l2)] [] S (g_158 l1 l2 S) := by
  unfold g_158
  refine aw_aload at_158_0 rfl ?_
  refine aw_getf at_158_1 gf_931 ?_
  refine aw_iload at_158_4 rfl ?_
  refine aw_iadd at_158_5 ?_
  refine aw_ic 2000 at_158_6 ic_2000 ?_
  refine aw_icmp_le at_158_9 ?_ ?_
  · refine aw_aload at_158_27 rfl ?_
    refine aw_dupA at_158_28 ?_
    refine aw_getf at_158_29 gf_931 ?_
    refine aw_iload at_158_32 rfl ?_
    refine aw_iadd at_158_33 ?_
    refine aw_putf at_158_34 (pf_931 _) (fun S1 => ?_)
    refine aw_ic 1 at_158_37 ic_1 ?_
    exact aw_rZ at_158_38 rfl (Or.inr rfl)
  · refine aw_aload at_158_12 rfl ?_
    refine aw_ic 2000 at_158_13 ic_2000 ?_
    refine aw_putf at_158_16 (pf_931 _) (fun S2 => ?_)
    refine aw_aload at_158_19 rfl ?_
    refine aw_ic 5 at_158_20 ic_5 ?_
    refine aw_iload at_158_21 rfl ?_
    refine aw_cV at_158_22 rfl (c_159 (by omega) _ _ _) (fun _ h => by cases h) rfl (fun S3 => ?_)
    refine aw_ic 0 at_158_25 ic_0 ?_
    exact aw_rZ at_158_26 rfl (Or.inl rfl)
theorem c_158 {X : amX} {d : Nat} {S0 : amS} {u : Nat → Int64} (hd : 2 ≤ d) (l1 : Int32) (l2 : Int32) (S : amS) : CW X d 158 [.ref 34, .int l1, .int l2] (wm S0 u) S (g_158 l1 l2 S) := cw_up (by omega) (fun d' h => by
  subst h
  exact cw_of rfl (by decide) (Nat.le_of_ble_eq_true rfl) rfl (fun e => t_158 (by omega) l1 l2 S))
/-! 160: ListDeskModel.see(I)V -/
theorem at_160_0 : am_at am_m160 0 = some (.iload 1, 1, 0) := rfl
theorem at_160_1 : am_at am_m160 1 = some (.istore 2, 1, 0) := rfl
theorem at_160_2 : am_at am_m160 2 = some (.iload 2, 1, 0) := rfl
theorem at_160_3 : am_at am_m160 3 = some (.ifCond .lt 32, 3, 0) := rfl
theorem at_160_6 : am_at am_m160 6 = some (.aload 0, 1, 0) := rfl
theorem at_160_7 : am_at am_m160 7 = some (.getfield 943, 3, 89) := rfl
theorem at_160_10 : am_at am_m160 10 = some (.iload 2, 1, 0) := rfl
theorem at_160_11 : am_at am_m160 11 = some (.baload, 1, 0) := rfl
theorem at_160_12 : am_at am_m160 12 = some (.ifCond .ne 32, 3, 0) := rfl
theorem at_160_15 : am_at am_m160 15 = some (.aload 0, 1, 0) := rfl
theorem at_160_16 : am_at am_m160 16 = some (.getfield 943, 3, 89) := rfl
theorem at_160_19 : am_at am_m160 19 = some (.iload 2, 1, 0) := rfl
theorem at_160_20 : am_at am_m160 20 = some (.iconst 1, 1, 0) := rfl
theorem at_160_21 : am_at am_m160 21 = some (.bastore, 1, 0) := rfl
theorem at_160_22 : am_at am_m160 22 = some (.aload 0, 1, 0) := rfl
theorem at_160_23 : am_at am_m160 23 = some (.getfield 942, 3, 86) := rfl
theorem at_160_26 : am_at am_m160 26 = some (.iload 2, 1, 0) := rfl
theorem at_160_27 : am_at am_m160 27 = some (.iaload, 1, 0) := rfl
theorem at_160_28 : am_at am_m160 28 = some (.istore 2, 1, 0) := rfl
theorem at_160_29 : am_at am_m160 29 = some (.goto 2, 3, 0) := rfl
theorem at_160_32 : am_at am_m160 32 = some (.return_, 1, 0) := rfl
def h_160_2 (n : Nat) (H2 : Int32 → amS → amQ) (l2 : Int32) (S : amS) : amQ := if l2 < 0 then some (.inl none, S) else az_ck l2 120000 (if (S.1 59 l2.toNatClampNeg) = 0 then az_ck l2 120000 (az_st (sI S 59 l2.toNatClampNeg (vp_nar .boolean 1)) fun S1 => az_ck l2 120000 (az_st (S1.1 58 l2.toNatClampNeg) fun x2 => H2 x2 S1)) else some (.inl none, S))
def g_160_2 : Nat → Int32 → amS → amQ
  | 0 => fun _ _ => none
  | n + 1 => h_160_2 n (g_160_2 n)
theorem th_160_2 {X : amX} {d e : Nat} {S0 : amS} {u : Nat → Int64} {H2 : Int32 → amS → amQ} (hd : 0 ≤ d) (n : Nat) (hH2 : ∀ (l2 : Int32) (S : amS), AW X d am_m160 (wm S0 u) e 2 [(0, .ref 34), (2, .int l2)] [] S (H2 l2 S)) (l2 : Int32)  (S : amS) : AW X d am_m160 (wm S0 u) e 2 [(0, .ref 34), (2, .int l2)] [] S (h_160_2 n H2 l2 S) := by
  unfold h_160_2
  refine aw_iload at_160_2 rfl ?_
  refine aw_if_lt at_160_3 ?_ ?_
  · exact aw_rV at_160_32 rfl
  · refine aw_aload at_160_6 rfl ?_
    refine aw_getf at_160_7 gf_943 ?_
    refine aw_iload at_160_10 rfl ?_
    refine aw_zald at_160_11 ar_59 ?_
    refine aw_if_ne at_160_12 ?_ ?_
    · exact aw_rV at_160_32 rfl
    · refine aw_aload at_160_15 rfl ?_
      refine aw_getf at_160_16 gf_943 ?_
      refine aw_iload at_160_19 rfl ?_
      refine aw_ic 1 at_160_20 ic_1 ?_
      refine aw_zast at_160_21 ar_59 (as_59 _ _) (fun S1 => ?_)
      refine aw_aload at_160_22 rfl ?_
      refine aw_getf at_160_23 gf_942 ?_
      refine aw_iload at_160_26 rfl ?_
      refine aw_iald at_160_27 ai_58 ?_
      refine aw_nameI (fun x2 => ?_)
      refine aw_istore at_160_28 (by decide) rfl rfl ?_
      refine aw_goto at_160_29 ?_
      exact aw_sub (al_cons rfl (al_cons rfl al_nil)) (hH2 x2 S1)
theorem t_160_2 {X : amX} {d e : Nat} {S0 : amS} {u : Nat → Int64} (hd : 0 ≤ d) : ∀ (n : Nat)  (l2 : Int32) (S : amS), AW X d am_m160 (wm S0 u) e 2 [(0, .ref 34), (2, .int l2)] [] S (g_160_2 n l2 S)
  | 0, _, _ => aw_none
  | n + 1, l2, S => th_160_2 hd n (t_160_2 hd n) l2 S
def g_160 (n : Nat) (l1 : Int32) (S : amS) : amQ := g_160_2 n l1 S
theorem t_160 {X : amX} {d e : Nat} {S0 : amS} {u : Nat → Int64} (hd : 0 ≤ d) (n : Nat)  (l1 : Int32) (S : amS) : AW X d am_m160 (wm S0 u) e 0 [(0, .ref 34), (1, .int l1)] [] S (g_160 n l1 S) := by
  unfold g_160
  refine aw_iload at_160_0 rfl ?_
  refine aw_istore at_160_1 (by decide) rfl rfl ?_
  exact aw_sub (al_cons rfl (al_cons rfl al_nil)) (t_160_2 (by omega) n l1 S)
theorem c_160 {X : amX} {d : Nat} {S0 : amS} {u : Nat → Int64} (hd : 1 ≤ d) (n : Nat) (l1 : Int32) (S : amS) : CW X d 160 [.ref 34, .int l1] (wm S0 u) S (g_160 n l1 S) := cw_up (by omega) (fun d' h => by
  subst h
  exact cw_of rfl (by decide) (Nat.le_of_ble_eq_true rfl) rfl (fun e => t_160 (by omega) n l1 S))
/-! 161: ListDeskModel.gather(I)V -/
theorem at_161_0 : am_at am_m161 0 = some (.iconst 0, 1, 0) := rfl
theorem at_161_1 : am_at am_m161 1 = some (.istore 2, 1, 0) := rfl
theorem at_161_2 : am_at am_m161 2 = some (.iload 2, 1, 0) := rfl
theorem at_161_3 : am_at am_m161 3 = some (.iconst 120000, 2, 89) := rfl
theorem at_161_5 : am_at am_m161 5 = some (.if_icmp .ge 21, 3, 0) := rfl
theorem at_161_8 : am_at am_m161 8 = some (.aload 0, 1, 0) := rfl
theorem at_161_9 : am_at am_m161 9 = some (.getfield 943, 3, 89) := rfl
theorem at_161_12 : am_at am_m161 12 = some (.iload 2, 1, 0) := rfl
theorem at_161_13 : am_at am_m161 13 = some (.iconst 0, 1, 0) := rfl
theorem at_161_14 : am_at am_m161 14 = some (.bastore, 1, 0) := rfl
theorem at_161_15 : am_at am_m161 15 = some (.iinc 2 1, 3, 0) := rfl
theorem at_161_18 : am_at am_m161 18 = some (.goto 2, 3, 0) := rfl
theorem at_161_21 : am_at am_m161 21 = some (.aload 0, 1, 0) := rfl
theorem at_161_22 : am_at am_m161 22 = some (.aload 0, 1, 0) := rfl
theorem at_161_23 : am_at am_m161 23 = some (.getfield 952, 3, 259) := rfl
theorem at_161_26 : am_at am_m161 26 = some (.invokevirtual 160, 3, 276) := rfl
theorem at_161_29 : am_at am_m161 29 = some (.aload 0, 1, 0) := rfl
theorem at_161_30 : am_at am_m161 30 = some (.iload 1, 1, 0) := rfl
theorem at_161_31 : am_at am_m161 31 = some (.invokevirtual 160, 3, 276) := rfl
theorem at_161_34 : am_at am_m161 34 = some (.iconst 0, 1, 0) := rfl
theorem at_161_35 : am_at am_m161 35 = some (.istore 2, 1, 0) := rfl
theorem at_161_36 : am_at am_m161 36 = some (.iload 2, 1, 0) := rfl
theorem at_161_37 : am_at am_m161 37 = some (.aload 0, 1, 0) := rfl
theorem at_161_38 : am_at am_m161 38 = some (.getfield 949, 3, 253) := rfl
theorem at_161_41 : am_at am_m161 41 = some (.if_icmp .ge 60, 3, 0) := rfl
theorem at_161_44 : am_at am_m161 44 = some (.aload 0, 1, 0) := rfl
theorem at_161_45 : am_at am_m161 45 = some (.aload 0, 1, 0) := rfl
theorem at_161_46 : am_at am_m161 46 = some (.getfield 947, 3, 98) := rfl
theorem at_161_49 : am_at am_m161 49 = some (.iload 2, 1, 0) := rfl
theorem at_161_50 : am_at am_m161 50 = some (.iaload, 1, 0) := rfl
theorem at_161_51 : am_at am_m161 51 = some (.invokevirtual 160, 3, 276) := rfl
theorem at_161_54 : am_at am_m161 54 = some (.iinc 2 1, 3, 0) := rfl
theorem at_161_57 : am_at am_m161 57 = some (.goto 36, 3, 0) := rfl
theorem at_161_60 : am_at am_m161 60 = some (.iconst 0, 1, 0) := rfl
theorem at_161_61 : am_at am_m161 61 = some (.istore 2, 1, 0) := rfl
theorem at_161_62 : am_at am_m161 62 = some (.iload 2, 1, 0) := rfl
theorem at_161_63 : am_at am_m161 63 = some (.aload 0, 1, 0) := rfl
theorem at_161_64 : am_at am_m161 64 = some (.getfield 939, 3, 250) := rfl
theorem at_161_67 : am_at am_m161 67 = some (.if_icmp .ge 86, 3, 0) := rfl
theorem at_161_70 : am_at am_m161 70 = some (.aload 0, 1, 0) := rfl
theorem at_161_71 : am_at am_m161 71 = some (.aload 0, 1, 0) := rfl
theorem at_161_72 : am_at am_m161 72 = some (.getfield 938, 3, 76) := rfl
theorem at_161_75 : am_at am_m161 75 = some (.iload 2, 1, 0) := rfl
theorem at_161_76 : am_at am_m161 76 = some (.iaload, 1, 0) := rfl
theorem at_161_77 : am_at am_m161 77 = some (.invokevirtual 160, 3, 276) := rfl
theorem at_161_80 : am_at am_m161 80 = some (.iinc 2 1, 3, 0) := rfl
theorem at_161_83 : am_at am_m161 83 = some (.goto 62, 3, 0) := rfl
theorem at_161_86 : am_at am_m161 86 = some (.aload 0, 1, 0) := rfl
theorem at_161_87 : am_at am_m161 87 = some (.iconst (-1), 1, 0) := rfl
theorem at_161_88 : am_at am_m161 88 = some (.putfield 944, 3, 262) := rfl
theorem at_161_91 : am_at am_m161 91 = some (.iconst 119999, 3, 288) := rfl
theorem at_161_94 : am_at am_m161 94 = some (.istore 2, 1, 0) := rfl
theorem at_161_95 : am_at am_m161 95 = some (.iload 2, 1, 0) := rfl
theorem at_161_96 : am_at am_m161 96 = some (.ifCond .lt 129, 3, 0) := rfl
theorem at_161_99 : am_at am_m161 99 = some (.aload 0, 1, 0) := rfl
theorem at_161_100 : am_at am_m161 100 = some (.getfield 943, 3, 89) := rfl
theorem at_161_103 : am_at am_m161 103 = some (.iload 2, 1, 0) := rfl
theorem at_161_104 : am_at am_m161 104 = some (.baload, 1, 0) := rfl
theorem at_161_105 : am_at am_m161 105 = some (.ifCond .ne 123, 3, 0) := rfl
theorem at_161_108 : am_at am_m161 108 = some (.aload 0, 1, 0) := rfl
theorem at_161_109 : am_at am_m161 109 = some (.getfield 942, 3, 86) := rfl
theorem at_161_112 : am_at am_m161 112 = some (.iload 2, 1, 0) := rfl
theorem at_161_113 : am_at am_m161 113 = some (.aload 0, 1, 0) := rfl
theorem at_161_114 : am_at am_m161 114 = some (.getfield 944, 3, 262) := rfl
theorem at_161_117 : am_at am_m161 117 = some (.iastore, 1, 0) := rfl
theorem at_161_118 : am_at am_m161 118 = some (.aload 0, 1, 0) := rfl
theorem at_161_119 : am_at am_m161 119 = some (.iload 2, 1, 0) := rfl
theorem at_161_120 : am_at am_m161 120 = some (.putfield 944, 3, 262) := rfl
theorem at_161_123 : am_at am_m161 123 = some (.iinc 2 (-1), 3, 0) := rfl
theorem at_161_126 : am_at am_m161 126 = some (.goto 95, 3, 0) := rfl
theorem at_161_129 : am_at am_m161 129 = some (.return_, 1, 0) := rfl
def g_161_123 (n : Nat) (H95 : Int32 → amS → amQ) (l2 : Int32) (S : amS) : amQ := H95 (l2 + (-1)) S
theorem t_161_123 {X : amX} {d e : Nat} {S0 : amS} {u : Nat → Int64} {H95 : Int32 → amS → amQ} (hd : 1 ≤ d) (n : Nat) (hH95 : ∀ (l2 : Int32) (S : amS), AW X d am_m161 (wm S0 u) e 95 [(0, .ref 34), (2, .int l2)] [] S (H95 l2 S)) (l2 : Int32) (S : amS) : AW X d am_m161 (wm S0 u) e 123 [(0, .ref 34), (2, .int l2)] [] S (g_161_123 n H95 l2 S) := by
  unfold g_161_123
  refine aw_iinc at_161_123 rfl (by decide) rfl ic_m1 rfl ?_
  refine aw_goto at_161_126 ?_
  exact aw_sub (al_cons rfl (al_cons rfl al_nil)) (hH95 (l2 + (-1)) S)
def h_161_95 (n : Nat) (H95 : Int32 → amS → amQ) (l2 : Int32) (S : amS) : amQ := if l2 < 0 then some (.inl none, S) else az_ck l2 120000 (if (S.1 59 l2.toNatClampNeg) = 0 then az_ck l2 120000 (az_st (sI S 58 l2.toNatClampNeg (S.1 34 44)) fun S1 => az_st (sI S1 34 44 l2) fun S2 => g_161_123 n H95 l2 S2) else g_161_123 n H95 l2 S)
def g_161_95 : Nat → Int32 → amS → amQ
  | 0 => fun _ _ => none
  | n + 1 => h_161_95 n (g_161_95 n)
theorem th_161_95 {X : amX} {d e : Nat} {S0 : amS} {u : Nat → Int64} {H95 : Int32 → amS → amQ} (hd : 1 ≤ d) (n : Nat) (hH95 : ∀ (l2 : Int32) (S : amS), AW X d am_m161 (wm S0 u) e 95 [(0, .ref 34), (2, .int l2)] [] S (H95 l2 S)) (l2 : Int32)  (S : amS) : AW X d am_m161 (wm S0 u) e 95 [(0, .ref 34), (2, .int l2)] [] S (h_161_95 n H95 l2 S) := by
  unfold h_161_95
  refine aw_iload at_161_95 rfl ?_
  refine aw_if_lt at_161_96 ?_ ?_
  · exact aw_rV at_161_129 rfl
  · refine aw_aload at_161_99 rfl ?_
    refine aw_getf at_161_100 gf_943 ?_
    refine aw_iload at_161_103 rfl ?_
    refine aw_zald at_161_104 ar_59 ?_
    refine aw_if_ne at_161_105 ?_ ?_
    · exact aw_sub (al_cons rfl (al_cons rfl al_nil)) (t_161_123 (by omega) n hH95 l2 S)
    · refine aw_aload at_161_108 rfl ?_
      refine aw_getf at_161_109 gf_942 ?_
      refine aw_iload at_161_112 rfl ?_
      refine aw_aload at_161_113 rfl ?_
      refine aw_getf at_161_114 gf_944 ?_
      refine aw_iast at_161_117 ar_58 (as_58 _ _) (fun S1 => ?_)
      refine aw_aload at_161_118 rfl ?_
      refine aw_iload at_161_119 rfl ?_
      refine aw_putf at_161_120 (pf_944 _) (fun S2 => ?_)
      exact aw_sub (al_cons rfl (al_cons rfl al_nil)) (t_161_123 (by omega) n hH95 l2 S2)
theorem t_161_95 {X : amX} {d e : Nat} {S0 : amS} {u : Nat → Int64} (hd : 1 ≤ d) : ∀ (n : Nat)  (l2 : Int32) (S : amS), AW X d am_m161 (wm S0 u) e 95 [(0, .ref 34), (2, .int l2)] [] S (g_161_95 n l2 S)
  | 0, _, _ => aw_none
  | n + 1, l2, S => th_161_95 hd n (t_161_95 hd n) l2 S
def h_161_62 (n : Nat) (H62 : Int32 → amS → amQ) (l2 : Int32) (S : amS) : amQ := if (S.1 34 39) ≤ l2 then az_st (sI S 34 44 ((-1))) fun S1 => g_161_95 n 119999 S1 else az_ck l2 2000 (az_bV (g_160 n (S.1 55 l2.toNatClampNeg) S) fun S2 => H62 (l2 + 1) S2)
def g_161_62 : Nat → Int32 → amS → amQ
  | 0 => fun _ _ => none
  | n + 1 => h_161_62 n (g_161_62 n)
theorem th_161_62 {X : amX} {d e : Nat} {S0 : amS} {u : Nat → Int64} {H62 : Int32 → amS → amQ} (hd : 1 ≤ d) (n : Nat) (hH62 : ∀ (l2 : Int32) (S : amS), AW X d am_m161 (wm S0 u) e 62 [(0, .ref 34), (2, .int l2)] [] S (H62 l2 S)) (l2 : Int32)  (S : amS) : AW X d am_m161 (wm S0 u) e 62 [(0, .ref 34), (2, .int l2)] [] S (h_161_62 n H62 l2 S) := by
  unfold h_161_62
  refine aw_iload at_161_62 rfl ?_
  refine aw_aload at_161_63 rfl ?_
  refine aw_getf at_161_64 gf_939 ?_
  refine aw_icmp_ge at_161_67 ?_ ?_
  · refine aw_aload at_161_86 rfl ?_
    refine aw_ic (-1) at_161_87 ic_m1 ?_
    refine aw_putf at_161_88 (pf_944 _) (fun S1 => ?_)
    refine aw_ic 119999 at_161_91 ic_119999 ?_
    refine aw_istore at_161_94 (by decide) rfl rfl ?_
    exact aw_sub (al_cons rfl (al_cons rfl al_nil)) (t_161_95 (by omega) n 119999 S1)
  · refine aw_aload at_161_70 rfl ?_
    refine aw_aload at_161_71 rfl ?_
    refine aw_getf at_161_72 gf_938 ?_
    refine aw_iload at_161_75 rfl ?_
    refine aw_iald at_161_76 ai_55 ?_
    refine aw_cV at_161_77 rfl (c_160 (by omega) n _ _) (fun _ h => by cases h) rfl (fun S2 => ?_)
    refine aw_iinc at_161_80 rfl (by decide) rfl ic_1 rfl ?_
    refine aw_goto at_161_83 ?_
    exact aw_sub (al_cons rfl (al_cons rfl al_nil)) (hH62 (l2 + 1) S2)
theorem t_161_62 {X : amX} {d e : Nat} {S0 : amS} {u : Nat → Int64} (hd : 1 ≤ d) : ∀ (n : Nat)  (l2 : Int32) (S : amS), AW X d am_m161 (wm S0 u) e 62 [(0, .ref 34), (2, .int l2)] [] S (g_161_62 n l2 S)
  | 0, _, _ => aw_none
  | n + 1, l2, S => th_161_62 hd n (t_161_62 hd n) l2 S
def h_161_36 (n : Nat) (H36 : Int32 → amS → amQ) (l2 : Int32) (S : amS) : amQ := if (S.1 34 49) ≤ l2 then g_161_62 n 0 S else az_ck l2 8000 (az_bV (g_160 n (S.1 62 l2.toNatClampNeg) S) fun S1 => H36 (l2 + 1) S1)
def g_161_36 : Nat → Int32 → amS → amQ
  | 0 => fun _ _ => none
  | n + 1 => h_161_36 n (g_161_36 n)
theorem th_161_36 {X : amX} {d e : Nat} {S0 : amS} {u : Nat → Int64} {H36 : Int32 → amS → amQ} (hd : 1 ≤ d) (n : Nat) (hH36 : ∀ (l2 : Int32) (S : amS), AW X d am_m161 (wm S0 u) e 36 [(0, .ref 34), (2, .int l2)] [] S (H36 l2 S)) (l2 : Int32)  (S : amS) : AW X d am_m161 (wm S0 u) e 36 [(0, .ref 34), (2, .int l2)] [] S (h_161_36 n H36 l2 S) := by
  unfold h_161_36
  refine aw_iload at_161_36 rfl ?_
  refine aw_aload at_161_37 rfl ?_
  refine aw_getf at_161_38 gf_949 ?_
  refine aw_icmp_ge at_161_41 ?_ ?_
  · refine aw_ic 0 at_161_60 ic_0 ?_
    refine aw_istore at_161_61 (by decide) rfl rfl ?_
    exact aw_sub (al_cons rfl (al_cons rfl al_nil)) (t_161_62 (by omega) n 0 S)
  · refine aw_aload at_161_44 rfl ?_
    refine aw_aload at_161_45 rfl ?_
    refine aw_getf at_161_46 gf_947 ?_
    refine aw_iload at_161_49 rfl ?_
    refine aw_iald at_161_50 ai_62 ?_
    refine aw_cV at_161_51 rfl (c_160 (by omega) n _ _) (fun _ h => by cases h) rfl (fun S1 => ?_)
    refine aw_iinc at_161_54 rfl (by decide) rfl ic_1 rfl ?_
    refine aw_goto at_161_57 ?_
    exact aw_sub (al_cons rfl (al_cons rfl al_nil)) (hH36 (l2 + 1) S1)
theorem t_161_36 {X : amX} {d e : Nat} {S0 : amS} {u : Nat → Int64} (hd : 1 ≤ d) : ∀ (n : Nat)  (l2 : Int32) (S : amS), AW X d am_m161 (wm S0 u) e 36 [(0, .ref 34), (2, .int l2)] [] S (g_161_36 n l2 S)
  | 0, _, _ => aw_none
  | n + 1, l2, S => th_161_36 hd n (t_161_36 hd n) l2 S
def h_161_2 (n : Nat) (H2 : Int32 → Int32 → amS → amQ) (l1 : Int32) (l2 : Int32) (S : amS) : amQ := if 120000 ≤ l2 then az_bV (g_160 n (S.1 34 52) S) fun S1 => az_bV (g_160 n l1 S1) fun S2 => g_161_36 n 0 S2 else az_ck l2 120000 (az_st (sI S 59 l2.toNatClampNeg (vp_nar .boolean 0)) fun S3 => H2 l1 (l2 + 1) S3)
def g_161_2 : Nat → Int32 → Int32 → amS → amQ
  | 0 => fun _ _ _ => none
  | n + 1 => h_161_2 n (g_161_2 n)
theorem th_161_2 {X : amX} {d e : Nat} {S0 : amS} {u : Nat → Int64} {H2 : Int32 → Int32 → amS → amQ} (hd : 1 ≤ d) (n : Nat) (hH2 : ∀ (l1 : Int32) (l2 : Int32) (S : amS), AW X d am_m161 (wm S0 u) e 2 [(0, .ref 34), (1, .int l1), (2, .int l2)] [] S (H2 l1 l2 S)) (l1 : Int32) (l2 : Int32)  (S : amS) : AW X d am_m161 (wm S0 u) e 2 [(0, .ref 34), (1, .int l1), (2, .int l2)] [] S (h_161_2 n H2 l1 l2 S) := by
  unfold h_161_2
  refine aw_iload at_161_2 rfl ?_
  refine aw_ic 120000 at_161_3 ic_120000 ?_
  refine aw_icmp_ge at_161_5 ?_ ?_
  · refine aw_aload at_161_21 rfl ?_
    refine aw_aload at_161_22 rfl ?_
    refine aw_getf at_161_23 gf_952 ?_
    refine aw_cV at_161_26 rfl (c_160 (by omega) n _ _) (fun _ h => by cases h) rfl (fun S1 => ?_)
    refine aw_aload at_161_29 rfl ?_
    refine aw_iload at_161_30 rfl ?_
    refine aw_cV at_161_31 rfl (c_160 (by omega) n _ _) (fun _ h => by cases h) rfl (fun S2 => ?_)
    refine aw_ic 0 at_161_34 ic_0 ?_
    refine aw_istore at_161_35 (by decide) rfl rfl ?_
    exact aw_sub (al_cons rfl (al_cons rfl al_nil)) (t_161_36 (by omega) n 0 S2)
  · refine aw_aload at_161_8 rfl ?_
    refine aw_getf at_161_9 gf_943 ?_
    refine aw_iload at_161_12 rfl ?_
    refine aw_ic 0 at_161_13 ic_0 ?_
    refine aw_zast at_161_14 ar_59 (as_59 _ _) (fun S3 => ?_)
    refine aw_iinc at_161_15 rfl (by decide) rfl ic_1 rfl ?_
    refine aw_goto at_161_18 ?_
    exact aw_sub (al_cons rfl (al_cons rfl (al_cons rfl al_nil))) (hH2 l1 (l2 + 1) S3)
theorem t_161_2 {X : amX} {d e : Nat} {S0 : amS} {u : Nat → Int64} (hd : 1 ≤ d) : ∀ (n : Nat)  (l1 : Int32) (l2 : Int32) (S : amS), AW X d am_m161 (wm S0 u) e 2 [(0, .ref 34), (1, .int l1), (2, .int l2)] [] S (g_161_2 n l1 l2 S)
  | 0, _, _, _ => aw_none
  | n + 1, l1, l2, S => th_161_2 hd n (t_161_2 hd n) l1 l2 S
def g_161 (n : Nat) (l1 : Int32) (S : amS) : amQ := g_161_2 n l1 0 S
theorem t_161 {X : amX} {d e : Nat} {S0 : amS} {u : Nat → Int64} (hd : 1 ≤ d) (n : Nat)  (l1 : Int32) (S : amS) : AW X d am_m161 (wm S0 u) e 0 [(0, .ref 34), (1, .int l1)] [] S (g_161 n l1 S) := by
  unfold g_161
  refine aw_ic 0 at_161_0 ic_0 ?_
  refine aw_istore at_161_1 (by decide) rfl rfl ?_
  exact aw_sub (al_cons rfl (al_cons rfl (al_cons rfl al_nil))) (t_161_2 (by omega) n l1 0 S)
theorem c_161 {X : amX} {d : Nat} {S0 : amS} {u : Nat → Int64} (hd : 2 ≤ d) (n : Nat) (l1 : Int32) (S : amS) : CW X d 161 [.ref 34, .int l1] (wm S0 u) S (g_161 n l1 S) := cw_up (by omega) (fun d' h => by
  subst h
  exact cw_of rfl (by decide) (Nat.le_of_ble_eq_true rfl) rfl (fun e => t_161 (by omega) n l1 S))
/-! 162: ListDeskModel.bind(IJI)I -/
theorem at_162_0 : am_at am_m162 0 = some (.aload 0, 1, 0) := rfl
theorem at_162_1 : am_at am_m162 1 = some (.getfield 944, 3, 262) := rfl
theorem at_162_4 : am_at am_m162 4 = some (.ifCond .ge 13, 3, 0) := rfl
theorem at_162_7 : am_at am_m162 7 = some (.aload 0, 1, 0) := rfl
theorem at_162_8 : am_at am_m162 8 = some (.iload 4, 2, 0) := rfl
theorem at_162_10 : am_at am_m162 10 = some (.invokevirtual 161, 3, 279) := rfl
theorem at_162_13 : am_at am_m162 13 = some (.aload 0, 1, 0) := rfl
theorem at_162_14 : am_at am_m162 14 = some (.getfield 944, 3, 262) := rfl
theorem at_162_17 : am_at am_m162 17 = some (.istore 5, 2, 0) := rfl
theorem at_162_19 : am_at am_m162 19 = some (.aload 0, 1, 0) := rfl
theorem at_162_20 : am_at am_m162 20 = some (.aload 0, 1, 0) := rfl
theorem at_162_21 : am_at am_m162 21 = some (.getfield 942, 3, 86) := rfl
theorem at_162_24 : am_at am_m162 24 = some (.iload 5, 2, 0) := rfl
theorem at_162_26 : am_at am_m162 26 = some (.iaload, 1, 0) := rfl
theorem at_162_27 : am_at am_m162 27 = some (.putfield 944, 3, 262) := rfl
theorem at_162_30 : am_at am_m162 30 = some (.aload 0, 1, 0) := rfl
theorem at_162_31 : am_at am_m162 31 = some (.getfield 940, 3, 80) := rfl
theorem at_162_34 : am_at am_m162 34 = some (.iload 5, 2, 0) := rfl
theorem at_162_36 : am_at am_m162 36 = some (.iload 1, 1, 0) := rfl
theorem at_162_37 : am_at am_m162 37 = some (.iastore, 1, 0) := rfl
theorem at_162_38 : am_at am_m162 38 = some (.aload 0, 1, 0) := rfl
theorem at_162_39 : am_at am_m162 39 = some (.getfield 941, 3, 83) := rfl
theorem at_162_42 : am_at am_m162 42 = some (.iload 5, 2, 0) := rfl
theorem at_162_44 : am_at am_m162 44 = some (.lload 2, 1, 0) := rfl
theorem at_162_45 : am_at am_m162 45 = some (.lastore, 1, 0) := rfl
theorem at_162_46 : am_at am_m162 46 = some (.aload 0, 1, 0) := rfl
theorem at_162_47 : am_at am_m162 47 = some (.getfield 942, 3, 86) := rfl
theorem at_162_50 : am_at am_m162 50 = some (.iload 5, 2, 0) := rfl
theorem at_162_52 : am_at am_m162 52 = some (.iload 4, 2, 0) := rfl
theorem at_162_54 : am_at am_m162 54 = some (.iastore, 1, 0) := rfl
theorem at_162_55 : am_at am_m162 55 = some (.iload 5, 2, 0) := rfl
theorem at_162_57 : am_at am_m162 57 = some (.ireturn, 1, 0) := rfl
def g_162_13 (n : Nat) (l1 : Int32) (l2 : Int64) (l4 : Int32) (S : amS) : amQ := az_st (S.1 34 44) fun x1 => az_ck x1 120000 (az_st (sI S 34 44 (S.1 58 x1.toNatClampNeg)) fun S2 => az_ck x1 120000 (az_st (sI S2 56 x1.toNatClampNeg l1) fun S3 => az_ck x1 120000 (az_st (sJ S3 57 x1.toNatClampNeg l2) fun S4 => az_ck x1 120000 (az_st (sI S4 58 x1.toNatClampNeg l4) fun S5 => some (.inl (some (.int x1)), S5)))))
theorem t_162_13 {X : amX} {d e : Nat} {S0 : amS} {u : Nat → Int64} (hd : 2 ≤ d) (n : Nat)  (l1 : Int32) (l2 : Int64) (l4 : Int32) (S : amS) : AW X d am_m162 (wm S0 u) e 13 [(0, .ref 34), (1, .int l1), (2, .long l2), (4, .int l4)] [] S (g_162_13 n l1 l2 l4 S) := by
  unfold g_162_13
  refine aw_aload at_162_13 rfl ?_
  refine aw_getf at_162_14 gf_944 ?_
  refine aw_nameI (fun x1 => ?_)
  refine aw_istore at_162_17 (by decide) rfl rfl ?_
  refine aw_aload at_162_19 rfl ?_
  refine aw_aload at_162_20 rfl ?_
  refine aw_getf at_162_21 gf_942 ?_
  refine aw_iload at_162_24 rfl ?_
  refine aw_iald at_162_26 ai_58 ?_
  refine aw_putf at_162_27 (pf_944 _) (fun S2 => ?_)
  refine aw_aload at_162_30 rfl ?_
  refine aw_getf at_162_31 gf_940 ?_
  refine aw_iload at_162_34 rfl ?_
  refine aw_iload at_162_36 rfl ?_
  refine aw_iast at_162_37 ar_56 (as_56 _ _) (fun S3 => ?_)
  refine aw_aload at_162_38 rfl ?_
  refine aw_getf at_162_39 gf_941 ?_
  refine aw_iload at_162_42 rfl ?_
  refine aw_lload at_162_44 rfl ?_
  refine aw_last at_162_45 ar_57 (as_57 _ _) (fun S4 => ?_)
  refine aw_aload at_162_46 rfl ?_
  refine aw_getf at_162_47 gf_942 ?_
  refine aw_iload at_162_50 rfl ?_
  refine aw_iload at_162_52 rfl ?_
  refine aw_iast at_162_54 ar_58 (as_58 _ _) (fun S5 => ?_)
  refine aw_iload at_162_55 rfl ?_
  exact aw_rI at_162_57 rfl
def g_162 (n : Nat) (l1 : Int32) (l2 : Int64) (l4 : Int32) (S : amS) : amQ := if 0 ≤ (S.1 34 44) then g_162_13 n l1 l2 l4 S else az_bV (g_161 n l4 S) fun S1 => g_162_13 n l1 l2 l4 S1
theorem t_162 {X : amX} {d e : Nat} {S0 : amS} {u : Nat → Int64} (hd : 2 ≤ d) (n : Nat)  (l1 : Int32) (l2 : Int64) (l4 : Int32) (S : amS) : AW X d am_m162 (wm S0 u) e 0 [(0, .ref 34), (1, .int l1), (2, .long l2), (4, .int l4)] [] S (g_162 n l1 l2 l4 S) := by
  unfold g_162
  refine aw_aload at_162_0 rfl ?_
  refine aw_getf at_162_1 gf_944 ?_
  refine aw_if_ge at_162_4 ?_ ?_
  · exact aw_sub (al_cons rfl (al_cons rfl (al_cons rfl (al_cons rfl al_nil)))) (t_162_13 (by omega) n l1 l2 l4 S)
  · refine aw_aload at_162_7 rfl ?_
    refine aw_iload at_162_8 rfl ?_
    refine aw_cV at_162_10 rfl (c_161 (by omega) n _ _) (fun _ h => by cases h) rfl (fun S1 => ?_)
    exact aw_sub (al_cons rfl (al_cons rfl (al_cons rfl (al_cons rfl al_nil)))) (t_162_13 (by omega) n l1 l2 l4 S1)
theorem c_162 {X : amX} {d : Nat} {S0 : amS} {u : Nat → Int64} (hd : 3 ≤ d) (n : Nat) (l1 : Int32) (l2 : Int64) (l4 : Int32) (S : amS) : CW X d 162 [.ref 34, .int l1, .long l2, .int l4] (wm S0 u) S (g_162 n l1 l2 l4 S) := cw_up (by omega) (fun d' h => by
  subst h
  exact cw_of rfl (by decide) (Nat.le_of_ble_eq_true rfl) rfl (fun e => t_162 (by omega) n l1 l2 l4 S))
/-! 163: ListDeskModel.find(I)I -/
theorem at_163_0 : am_at am_m163 0 = some (.aload 0, 1, 0) := rfl
theorem at_163_1 : am_at am_m163 1 = some (.getfield 952, 3, 259) := rfl
theorem at_163_4 : am_at am_m163 4 = some (.istore 2, 1, 0) := rfl
theorem at_163_5 : am_at am_m163 5 = some (.aload 0, 1, 0) := rfl
theorem at_163_6 : am_at am_m163 6 = some (.getfield 940, 3, 80) := rfl
theorem at_163_9 : am_at am_m163 9 = some (.iload 2, 1, 0) := rfl
theorem at_163_10 : am_at am_m163 10 = some (.iaload, 1, 0) := rfl
theorem at_163_11 : am_at am_m163 11 = some (.iload 1, 1, 0) := rfl
theorem at_163_12 : am_at am_m163 12 = some (.if_icmp .eq 25, 3, 0) := rfl
theorem at_163_15 : am_at am_m163 15 = some (.aload 0, 1, 0) := rfl
theorem at_163_16 : am_at am_m163 16 = some (.getfield 942, 3, 86) := rfl
theorem at_163_19 : am_at am_m163 19 = some (.iload 2, 1, 0) := rfl
theorem at_163_20 : am_at am_m163 20 = some (.iaload, 1, 0) := rfl
theorem at_163_21 : am_at am_m163 21 = some (.istore 2, 1, 0) := rfl
theorem at_163_22 : am_at am_m163 22 = some (.goto 5, 3, 0) := rfl
theorem at_163_25 : am_at am_m163 25 = some (.iload 2, 1, 0) := rfl
theorem at_163_26 : am_at am_m163 26 = some (.ireturn, 1, 0) := rfl
def h_163_5 (n : Nat) (H5 : Int32 → Int32 → amS → amQ) (l1 : Int32) (l2 : Int32) (S : amS) : amQ := az_ck l2 120000 (if (S.1 56 l2.toNatClampNeg) = l1 then some (.inl (some (.int l2)), S) else az_ck l2 120000 (az_st (S.1 58 l2.toNatClampNeg) fun x1 => H5 l1 x1 S))
def g_163_5 : Nat → Int32 → Int32 → amS → amQ
  | 0 => fun _ _ _ => none
  | n + 1 => h_163_5 n (g_163_5 n)
theorem th_163_5 {X : amX} {d e : Nat} {S0 : amS} {u : Nat → Int64} {H5 : Int32 → Int32 → amS → amQ} (hd : 0 ≤ d) (n : Nat) (hH5 : ∀ (l1 : Int32) (l2 : Int32) (S : amS), AW X d am_m163 (wm S0 u) e 5 [(0, .ref 34), (1, .int l1), (2, .int l2)] [] S (H5 l1 l2 S)) (l1 : Int32) (l2 : Int32)  (S : amS) : AW X d am_m163 (wm S0 u) e 5 [(0, .ref 34), (1, .int l1), (2, .int l2)] [] S (h_163_5 n H5 l1 l2 S) := by
  unfold h_163_5
  refine aw_aload at_163_5 rfl ?_
  refine aw_getf at_163_6 gf_940 ?_
  refine aw_iload at_163_9 rfl ?_
  refine aw_iald at_163_10 ai_56 ?_
  refine aw_iload at_163_11 rfl ?_
  refine aw_icmp_eq at_163_12 ?_ ?_
  · refine aw_iload at_163_25 rfl ?_
    exact aw_rI at_163_26 rfl
  · refine aw_aload at_163_15 rfl ?_
    refine aw_getf at_163_16 gf_942 ?_
    refine aw_iload at_163_19 rfl ?_
    refine aw_iald at_163_20 ai_58 ?_
    refine aw_nameI (fun x1 => ?_)
    refine aw_istore at_163_21 (by decide) rfl rfl ?_
    refine aw_goto at_163_22 ?_
    exact aw_sub (al_cons rfl (al_cons rfl (al_cons rfl al_nil))) (hH5 l1 x1 S)
theorem t_163_5 {X : amX} {d e : Nat} {S0 : amS} {u : Nat → Int64} (hd : 0 ≤ d) : ∀ (n : Nat)  (l1 : Int32) (l2 : Int32) (S : amS), AW X d am_m163 (wm S0 u) e 5 [(0, .ref 34), (1, .int l1), (2, .int l2)] [] S (g_163_5 n l1 l2 S)
  | 0, _, _, _ => aw_none
  | n + 1, l1, l2, S => th_163_5 hd n (t_163_5 hd n) l1 l2 S
def g_163 (n : Nat) (l1 : Int32) (S : amS) : amQ := az_st (S.1 34 52) fun x1 => g_163_5 n l1 x1 S
theorem t_163 {X : amX} {d e : Nat} {S0 : amS} {u : Nat → Int64} (hd : 0 ≤ d) (n : Nat)  (l1 : Int32) (S : amS) : AW X d am_m163 (wm S0 u) e 0 [(0, .ref 34), (1, .int l1)] [] S (g_163 n l1 S) := by
  unfold g_163
  refine aw_aload at_163_0 rfl ?_
  refine aw_getf at_163_1 gf_952 ?_
  refine aw_nameI (fun x1 => ?_)
  refine aw_istore at_163_4 (by decide) rfl rfl ?_
  exact aw_sub (al_cons rfl (al_cons rfl (al_cons rfl al_nil))) (t_163_5 (by omega) n l1 x1 S)
theorem c_163 {X : amX} {d : Nat} {S0 : amS} {u : Nat → Int64} (hd : 1 ≤ d) (n : Nat) (l1 : Int32) (S : amS) : CW X d 163 [.ref 34, .int l1] (wm S0 u) S (g_163 n l1 S) := cw_up (by omega) (fun d' h => by
  subst h
  exact cw_of rfl (by decide) (Nat.le_of_ble_eq_true rfl) rfl (fun e => t_163 (by omega) n l1 S))
/-! 164: ListDeskModel.countsOf(I)I -/
theorem at_164_0 : am_at am_m164 0 = some (.iconst 0, 1, 0) := rfl
theorem at_164_1 : am_at am_m164 1 = some (.istore 2, 1, 0) := rfl
theorem at_164_2 : am_at am_m164 2 = some (.iconst 0, 1, 0) := rfl
theorem at_164_3 : am_at am_m164 3 = some (.istore 3, 1, 0) := rfl
theorem at_164_4 : am_at am_m164 4 = some (.iload 3, 1, 0) := rfl
theorem at_164_5 : am_at am_m164 5 = some (.aload 0, 1, 0) := rfl
theorem at_164_6 : am_at am_m164 6 = some (.getfield 916, 3, 41) := rfl
theorem at_164_9 : am_at am_m164 9 = some (.iload 1, 1, 0) := rfl
theorem at_164_10 : am_at am_m164 10 = some (.iaload, 1, 0) := rfl
theorem at_164_11 : am_at am_m164 11 = some (.if_icmp .ge 46, 3, 0) := rfl
theorem at_164_14 : am_at am_m164 14 = some (.iload 2, 1, 0) := rfl
theorem at_164_15 : am_at am_m164 15 = some (.aload 0, 1, 0) := rfl
theorem at_164_16 : am_at am_m164 16 = some (.getfield 918, 3, 48) := rfl
theorem at_164_19 : am_at am_m164 19 = some (.aload 0, 1, 0) := rfl
theorem at_164_20 : am_at am_m164 20 = some (.getfield 915, 3, 38) := rfl
theorem at_164_23 : am_at am_m164 23 = some (.iconst 4, 1, 0) := rfl
theorem at_164_24 : am_at am_m164 24 = some (.iload 1, 1, 0) := rfl
theorem at_164_25 : am_at am_m164 25 = some (.imul, 1, 0) := rfl
theorem at_164_26 : am_at am_m164 26 = some (.iload 3, 1, 0) := rfl
theorem at_164_27 : am_at am_m164 27 = some (.iadd, 1, 0) := rfl
theorem at_164_28 : am_at am_m164 28 = some (.iaload, 1, 0) := rfl
theorem at_164_29 : am_at am_m164 29 = some (.baload, 1, 0) := rfl
theorem at_164_30 : am_at am_m164 30 = some (.ifCond .eq 37, 3, 0) := rfl
theorem at_164_33 : am_at am_m164 33 = some (.iconst 1, 1, 0) := rfl
theorem at_164_34 : am_at am_m164 34 = some (.goto 38, 3, 0) := rfl
theorem at_164_37 : am_at am_m164 37 = some (.iconst 0, 1, 0) := rfl
theorem at_164_38 : am_at am_m164 38 = some (.iadd, 1, 0) := rfl
theorem at_164_39 : am_at am_m164 39 = some (.istore 2, 1, 0) := rfl
theorem at_164_40 : am_at am_m164 40 = some (.iinc 3 1, 3, 0) := rfl
theorem at_164_43 : am_at am_m164 43 = some (.goto 4, 3, 0) := rfl
theorem at_164_46 : am_at am_m164 46 = some (.iload 2, 1, 0) := rfl
theorem at_164_47 : am_at am_m164 47 = some (.ireturn, 1, 0) := rfl
def g_164_38 (n : Nat) (H4 : Int32 → Int32 → Int32 → amS → amQ) (l1 : Int32) (l3 : Int32) (s0 : Int32) (s1 : Int32) (S : amS) : amQ := az_st (s0 + s1) fun x1 => H4 l1 x1 (l3 + 1) S
theorem t_164_38 {X : amX} {d e : Nat} {S0 : amS} {u : Nat → Int64} {H4 : Int32 → Int32 → Int32 → amS → amQ} (hd : 0 ≤ d) (n : Nat) (hH4 : ∀ (l1 : Int32) (l2 : Int32) (l3 : Int32) (S : amS), AW X d am_m164 (wm S0 u) e 4 [(0, .ref 34), (1, .int l1), (2, .int l2), (3, .int l3)] [] S (H4 l1 l2 l3 S)) (l1 : Int32) (l3 : Int32) (s0 : Int32) (s1 : Int32) (S : amS) : AW X d am_m164 (wm S0 u) e 38 [(0, .ref 34), (1, .int l1), (3, .int l3)] [.int s1, .int s0] S (g_164_38 n H4 l1 l3 s0 s1 S) := by
  unfold g_164_38
  refine aw_iadd at_164_38 ?_
  refine aw_nameI (fun x1 => ?_)
  refine aw_istore at_164_39 (by decide) rfl rfl ?_
  refine aw_iinc at_164_40 rfl (by decide) rfl ic_1 rfl ?_
  refine aw_goto at_164_43 ?_
  exact aw_sub (al_cons rfl (al_cons rfl (al_cons rfl (al_cons rfl al_nil)))) (hH4 l1 x1 (l3 + 1) S)
def h_164_4 (n : Nat) (H4 : Int32 → Int32 → Int32 → amS → amQ) (l1 : Int32) (l2 : Int32) (l3 : Int32) (S : amS) : amQ := az_ck l1 256 (if (S.1 44 l1.toNatClampNeg) ≤ l3 then some (.inl (some (.int l2)), S) else az_ck ((4 * l1) + l3) 1024 (az_ck (S.1 43 ((4 * l1) + l3).toNatClampNeg) 256 (if (S.1 46 (S.1 43 ((4 * l1) + l3).toNatClampNeg).toNatClampNeg) = 0 then g_164_38 n H4 l1 l3 l2 0 S else g_164_38 n H4 l1 l3 l2 1 S)))
def g_164_4 : Nat → Int32 → Int32 → Int32 → amS → amQ
  | 0 => fun _ _ _ _ => none
  | n + 1 => h_164_4 n (g_164_4 n)
theorem th_164_4 {X : amX} {d e : Nat} {S0 : amS} {u : Nat → Int64} {H4 : Int32 → Int32 → Int32 → amS → amQ} (hd : 0 ≤ d) (n : Nat) (hH4 : ∀ (l1 : Int32) (l2 : Int32) (l3 : Int32) (S : amS), AW X d am_m164 (wm S0 u) e 4 [(0, .ref 34), (1, .int l1), (2, .int l2), (3, .int l3)] [] S (H4 l1 l2 l3 S)) (l1 : Int32) (l2 : Int32) (l3 : Int32)  (S : amS) : AW X d am_m164 (wm S0 u) e 4 [(0, .ref 34), (1, .int l1), (2, .int l2), (3, .int l3)] [] S (h_164_4 n H4 l1 l2 l3 S) := by
  unfold h_164_4
  refine aw_iload at_164_4 rfl ?_
  refine aw_aload at_164_5 rfl ?_
  refine aw_getf at_164_6 gf_916 ?_
  refine aw_iload at_164_9 rfl ?_
  refine aw_iald at_164_10 ai_44 ?_
  refine aw_icmp_ge at_164_11 ?_ ?_
  · refine aw_iload at_164_46 rfl ?_
    exact aw_rI at_164_47 rfl
  · refine aw_iload at_164_14 rfl ?_
    refine aw_aload at_164_15 rfl ?_
    refine aw_getf at_164_16 gf_918 ?_
    refine aw_aload at_164_19 rfl ?_
    refine aw_getf at_164_20 gf_915 ?_
    refine aw_ic 4 at_164_23 ic_4 ?_
    refine aw_iload at_164_24 rfl ?_
    refine aw_imul at_164_25 ?_
    refine aw_iload at_164_26 rfl ?_
    refine aw_iadd at_164_27 ?_
    refine aw_iald at_164_28 ai_43 ?_
    refine aw_zald at_164_29 ar_46 ?_
    refine aw_if_eq at_164_30 ?_ ?_
    · refine aw_ic 0 at_164_37 ic_0 ?_
      exact aw_sub (al_cons rfl (al_cons rfl (al_cons rfl al_nil))) (t_164_38 (by omega) n hH4 l1 l3 l2 0 S)
    · refine aw_ic 1 at_164_33 ic_1 ?_
      refine aw_goto at_164_34 ?_
      exact aw_sub (al_cons rfl (al_cons rfl (al_cons rfl al_nil))) (t_164_38 (by omega) n hH4 l1 l3 l2 1 S)
theorem t_164_4 {X : amX} {d e : Nat} {S0 : amS} {u : Nat → Int64} (hd : 0 ≤ d) : ∀ (n : Nat)  (l1 : Int32) (l2 : Int32) (l3 : Int32) (S : amS), AW X d am_m164 (wm S0 u) e 4 [(0, .ref 34), (1, .int l1), (2, .int l2), (3, .int l3)] [] S (g_164_4 n l1 l2 l3 S)
  | 0, _, _, _, _ => aw_none
  | n + 1, l1, l2, l3, S => th_164_4 hd n (t_164_4 hd n) l1 l2 l3 S
def g_164 (n : Nat) (l1 : Int32) (S : amS) : amQ := g_164_4 n l1 0 0 S
theorem t_164 {X : amX} {d e : Nat} {S0 : amS} {u : Nat → Int64} (hd : 0 ≤ d) (n : Nat)  (l1 : Int32) (S : amS) : AW X d am_m164 (wm S0 u) e 0 [(0, .ref 34), (1, .int l1)] [] S (g_164 n l1 S) := by
  unfold g_164
  refine aw_ic 0 at_164_0 ic_0 ?_
  refine aw_istore at_164_1 (by decide) rfl rfl ?_
  refine aw_ic 0 at_164_2 ic_0 ?_
  refine aw_istore at_164_3 (by decide) rfl rfl ?_
  exact aw_sub (al_cons rfl (al_cons rfl (al_cons rfl (al_cons rfl al_nil)))) (t_164_4 (by omega) n l1 0 0 S)
theorem c_164 {X : amX} {d : Nat} {S0 : amS} {u : Nat → Int64} (hd : 1 ≤ d) (n : Nat) (l1 : Int32) (S : amS) : CW X d 164 [.ref 34, .int l1] (wm S0 u) S (g_164 n l1 S) := cw_up (by omega) (fun d' h => by
  subst h
  exact cw_of rfl (by decide) (Nat.le_of_ble_eq_true rfl) rfl (fun e => t_164 (by omega) n l1 S))
/-! 167: ListDeskModel.bodyOf(I)I -/
theorem at_167_0 : am_at am_m167 0 = some (.aload 0, 1, 0) := rfl
theorem at_167_1 : am_at am_m167 1 = some (.getfield 911, 3, 26) := rfl
theorem at_167_4 : am_at am_m167 4 = some (.iload 1, 1, 0) := rfl
theorem at_167_5 : am_at am_m167 5 = some (.iaload, 1, 0) := rfl
theorem at_167_6 : am_at am_m167 6 = some (.istore 2, 1, 0) := rfl
theorem at_167_7 : am_at am_m167 7 = some (.aload 0, 1, 0) := rfl
theorem at_167_8 : am_at am_m167 8 = some (.getfield 908, 3, 17) := rfl
theorem at_167_11 : am_at am_m167 11 = some (.iload 1, 1, 0) := rfl
theorem at_167_12 : am_at am_m167 12 = some (.iaload, 1, 0) := rfl
theorem at_167_13 : am_at am_m167 13 = some (.iconst 5, 1, 0) := rfl
theorem at_167_14 : am_at am_m167 14 = some (.if_icmp .eq 28, 3, 0) := rfl
theorem at_167_17 : am_at am_m167 17 = some (.aload 0, 1, 0) := rfl
theorem at_167_18 : am_at am_m167 18 = some (.getfield 908, 3, 17) := rfl
theorem at_167_21 : am_at am_m167 21 = some (.iload 1, 1, 0) := rfl
theorem at_167_22 : am_at am_m167 22 = some (.iaload, 1, 0) := rfl
theorem at_167_23 : am_at am_m167 23 = some (.iconst 6, 2, 1) := rfl
theorem at_167_25 : am_at am_m167 25 = some (.if_icmp .ne 37, 3, 0) := rfl
theorem at_167_28 : am_at am_m167 28 = some (.aload 0, 1, 0) := rfl
theorem at_167_29 : am_at am_m167 29 = some (.getfield 916, 3, 41) := rfl
theorem at_167_32 : am_at am_m167 32 = some (.iload 1, 1, 0) := rfl
theorem at_167_33 : am_at am_m167 33 = some (.iaload, 1, 0) := rfl
theorem at_167_34 : am_at am_m167 34 = some (.goto 38, 3, 0) := rfl
theorem at_167_37 : am_at am_m167 37 = some (.iconst 0, 1, 0) := rfl
theorem at_167_38 : am_at am_m167 38 = some (.istore 3, 1, 0) := rfl
theorem at_167_39 : am_at am_m167 39 = some (.iconst 0, 1, 0) := rfl
theorem at_167_40 : am_at am_m167 40 = some (.istore 4, 2, 0) := rfl
theorem at_167_42 : am_at am_m167 42 = some (.iload 4, 2, 0) := rfl
theorem at_167_44 : am_at am_m167 44 = some (.iload 3, 1, 0) := rfl
theorem at_167_45 : am_at am_m167 45 = some (.if_icmp .ge 61, 3, 0) := rfl
theorem at_167_48 : am_at am_m167 48 = some (.aload 0, 1, 0) := rfl
theorem at_167_49 : am_at am_m167 49 = some (.getfield 913, 3, 32) := rfl
theorem at_167_52 : am_at am_m167 52 = some (.iload 2, 1, 0) := rfl
theorem at_167_53 : am_at am_m167 53 = some (.iaload, 1, 0) := rfl
theorem at_167_54 : am_at am_m167 54 = some (.istore 2, 1, 0) := rfl
theorem at_167_55 : am_at am_m167 55 = some (.iinc 4 1, 3, 0) := rfl
theorem at_167_58 : am_at am_m167 58 = some (.goto 42, 3, 0) := rfl
theorem at_167_61 : am_at am_m167 61 = some (.iload 2, 1, 0) := rfl
theorem at_167_62 : am_at am_m167 62 = some (.ireturn, 1, 0) := rfl
def h_167_42 (n : Nat) (H42 : Int32 → Int32 → Int32 → amS → amQ) (l2 : Int32) (l3 : Int32) (l4 : Int32) (S : amS) : amQ := if l3 ≤ l4 then some (.inl (some (.int l2)), S) else az_ck l2 256 (az_st (S.1 41 l2.toNatClampNeg) fun x1 => H42 x1 l3 (l4 + 1) S)
def g_167_42 : Nat → Int32 → Int32 → Int32 → amS → amQ
  | 0 => fun _ _ _ _ => none
  | n + 1 => h_167_42 n (g_167_42 n)
theorem th_167_42 {X : amX} {d e : Nat} {S0 : amS} {u : Nat → Int64} {H42 : Int32 → Int32 → Int32 → amS → amQ} (hd : 0 ≤ d) (n : Nat) (hH42 : ∀ (l2 : Int32) (l3 : Int32) (l4 : Int32) (S : amS), AW X d am_m167 (wm S0 u) e 42 [(0, .ref 34), (2, .int l2), (3, .int l3), (4, .int l4)] [] S (H42 l2 l3 l4 S)) (l2 : Int32) (l3 : Int32) (l4 : Int32)  (S : amS) : AW X d am_m167 (wm S0 u) e 42 [(0, .ref 34), (2, .int l2), (3, .int l3), (4, .int l4)] [] S (h_167_42 n H42 l2 l3 l4 S) := by
  unfold h_167_42
  refine aw_iload at_167_42 rfl ?_
  refine aw_iload at_167_44 rfl ?_
  refine aw_icmp_ge at_167_45 ?_ ?_
  · refine aw_iload at_167_61 rfl ?_
    exact aw_rI at_167_62 rfl
  · refine aw_aload at_167_48 rfl ?_
    refine aw_getf at_167_49 gf_913 ?_
    refine aw_iload at_167_52 rfl ?_
    refine aw_iald at_167_53 ai_41 ?_
    refine aw_nameI (fun x1 => ?_)
    refine aw_istore at_167_54 (by decide) rfl rfl ?_
    refine aw_iinc at_167_55 rfl (by decide) rfl ic_1 rfl ?_
    refine aw_goto at_167_58 ?_
    exact aw_sub (al_cons rfl (al_cons rfl (al_cons rfl (al_cons rfl al_nil)))) (hH42 x1 l3 (l4 + 1) S)
theorem t_167_42 {X : amX} {d e : Nat} {S0 : amS} {u : Nat → Int64} (hd : 0 ≤ d) : ∀ (n : Nat)  (l2 : Int32) (l3 : Int32) (l4 : Int32) (S : amS), AW X d am_m167 (wm S0 u) e 42 [(0, .ref 34), (2, .int l2), (3, .int l3), (4, .int l4)] [] S (g_167_42 n l2 l3 l4 S)
  | 0, _, _, _, _ => aw_none
  | n + 1, l2, l3, l4, S => th_167_42 hd n (t_167_42 hd n) l2 l3 l4 S
def g_167_38 (n : Nat) (l2 : Int32) (s0 : Int32) (S : amS) : amQ := g_167_42 n l2 s0 0 S
theorem t_167_38 {X : amX} {d e : Nat} {S0 : amS} {u : Nat → Int64} (hd : 0 ≤ d) (n : Nat)  (l2 : Int32) (s0 : Int32) (S : amS) : AW X d am_m167 (wm S0 u) e 38 [(0, .ref 34), (2, .int l2)] [.int s0] S (g_167_38 n l2 s0 S) := by
  unfold g_167_38
  refine aw_istore at_167_38 (by decide) rfl rfl ?_
  refine aw_ic 0 at_167_39 ic_0 ?_
  refine aw_istore at_167_40 (by decide) rfl rfl ?_
  exact aw_sub (al_cons rfl (al_cons rfl (al_cons rfl (al_cons rfl al_nil)))) (t_167_42 (by omega) n l2 s0 0 S)
def g_167_28 (n : Nat) (l1 : Int32) (l2 : Int32) (S : amS) : amQ := az_ck l1 256 (g_167_38 n l2 (S.1 44 l1.toNatClampNeg) S)
theorem t_167_28 {X : amX} {d e : Nat} {S0 : amS} {u : Nat → Int64} (hd : 0 ≤ d) (n : Nat)  (l1 : Int32) (l2 : Int32) (S : amS) : AW X d am_m167 (wm S0 u) e 28 [(0, .ref 34), (1, .int l1), (2, .int l2)] [] S (g_167_28 n l1 l2 S) := by
  unfold g_167_28
  refine aw_aload at_167_28 rfl ?_
  refine aw_getf at_167_29 gf_916 ?_
  refine aw_iload at_167_32 rfl ?_
  refine aw_iald at_167_33 ai_44 ?_
  refine aw_goto at_167_34 ?_
  exact aw_sub (al_cons rfl (al_cons rfl al_nil)) (t_167_38 (by omega) n l2 (S.1 44 l1.toNatClampNeg) S)
def g_167 (n : Nat) (l1 : Int32) (S : amS) : amQ := az_ck l1 256 (az_st (S.1 39 l1.toNatClampNeg) fun x1 => az_ck l1 256 (if (S.1 36 l1.toNatClampNeg) = 5 then g_167_28 n l1 x1 S else az_ck l1 256 (if (S.1 36 l1.toNatClampNeg) = 6 then g_167_28 n l1 x1 S else g_167_38 n x1 0 S)))
theorem t_167 {X : amX} {d e : Nat} {S0 : amS} {u : Nat → Int64} (hd : 0 ≤ d) (n : Nat)  (l1 : Int32) (S : amS) : AW X d am_m167 (wm S0 u) e 0 [(0, .ref 34), (1, .int l1)] [] S (g_167 n l1 S) := by
  unfold g_167
  refine aw_aload at_167_0 rfl ?_
  refine aw_getf at_167_1 gf_911 ?_
  refine aw_iload at_167_4 rfl ?_
  refine aw_iald at_167_5 ai_39 ?_
  refine aw_nameI (fun x1 => ?_)
  refine aw_istore at_167_6 (by decide) rfl rfl ?_
  refine aw_aload at_167_7 rfl ?_
  refine aw_getf at_167_8 gf_908 ?_
  refine aw_iload at_167_11 rfl ?_
  refine aw_iald at_167_12 ai_36 ?_
  refine aw_ic 5 at_167_13 ic_5 ?_
  refine aw_icmp_eq at_167_14 ?_ ?_
  · exact aw_sub (al_cons rfl (al_cons rfl (al_cons rfl al_nil))) (t_167_28 (by omega) n l1 x1 S)
  · refine aw_aload at_167_17 rfl ?_
    refine aw_getf at_167_18 gf_908 ?_
    refine aw_iload at_167_21 rfl ?_
    refine aw_iald at_167_22 ai_36 ?_
    refine aw_ic 6 at_167_23 ic_6 ?_
    refine aw_icmp_ne at_167_25 ?_ ?_
    · refine aw_ic 0 at_167_37 ic_0 ?_
      exact aw_sub (al_cons rfl (al_cons rfl al_nil)) (t_167_38 (by omega) n x1 0 S)
    · exact aw_sub (al_cons rfl (al_cons rfl (al_cons rfl al_nil))) (t_167_28 (by omega) n l1 x1 S)
theorem c_167 {X : amX} {d : Nat} {S0 : amS} {u : Nat → Int64} (hd : 1 ≤ d) (n : Nat) (l1 : Int32) (S : amS) : CW X d 167 [.ref 34, .int l1] (wm S0 u) S (g_167 n l1 S) := cw_up (by omega) (fun d' h => by
  subst h
  exact cw_of rfl (by decide) (Nat.le_of_ble_eq_true rfl) rfl (fun e => t_167 (by omega) n l1 S))
/-! 168: ListDeskModel.begin()V -/
theorem at_168_0 : am_at am_m168 0 = some (.aload 0, 1, 0) := rfl
theorem at_168_1 : am_at am_m168 1 = some (.getfield 953, 3, 265) := rfl
theorem at_168_4 : am_at am_m168 4 = some (.istore 1, 1, 0) := rfl
theorem at_168_5 : am_at am_m168 5 = some (.aload 0, 1, 0) := rfl
theorem at_168_6 : am_at am_m168 6 = some (.iconst (-1), 1, 0) := rfl
theorem at_168_7 : am_at am_m168 7 = some (.putfield 953, 3, 265) := rfl
theorem at_168_10 : am_at am_m168 10 = some (.aload 0, 1, 0) := rfl
theorem at_168_11 : am_at am_m168 11 = some (.getfield 908, 3, 17) := rfl
theorem at_168_14 : am_at am_m168 14 = some (.iload 1, 1, 0) := rfl
theorem at_168_15 : am_at am_m168 15 = some (.iaload, 1, 0) := rfl
theorem at_168_16 : am_at am_m168 16 = some (.tableswitch 300 0 8 #[68, 84, 96, 118, 176, 195, 214, 268, 287], 52, 0) := rfl
theorem at_168_68 : am_at am_m168 68 = some (.aload 0, 1, 0) := rfl
theorem at_168_69 : am_at am_m168 69 = some (.aload 0, 1, 0) := rfl
theorem at_168_70 : am_at am_m168 70 = some (.getfield 910, 3, 23) := rfl
theorem at_168_73 : am_at am_m168 73 = some (.iload 1, 1, 0) := rfl
theorem at_168_74 : am_at am_m168 74 = some (.iaload, 1, 0) := rfl
theorem at_168_75 : am_at am_m168 75 = some (.invokestatic 155, 3, 285) := rfl
theorem at_168_78 : am_at am_m168 78 = some (.putfield 954, 3, 289) := rfl
theorem at_168_81 : am_at am_m168 81 = some (.goto 316, 3, 0) := rfl
theorem at_168_84 : am_at am_m168 84 = some (.aload 0, 1, 0) := rfl
theorem at_168_85 : am_at am_m168 85 = some (.iconst 1, 1, 0) := rfl
theorem at_168_86 : am_at am_m168 86 = some (.iconst 0, 1, 0) := rfl
theorem at_168_87 : am_at am_m168 87 = some (.invokestatic 156, 3, 293) := rfl
theorem at_168_90 : am_at am_m168 90 = some (.putfield 954, 3, 289) := rfl
theorem at_168_93 : am_at am_m168 93 = some (.goto 316, 3, 0) := rfl
theorem at_168_96 : am_at am_m168 96 = some (.aload 0, 1, 0) := rfl
theorem at_168_97 : am_at am_m168 97 = some (.aload 0, 1, 0) := rfl
theorem at_168_98 : am_at am_m168 98 = some (.getfield 941, 3, 83) := rfl
theorem at_168_101 : am_at am_m168 101 = some (.aload 0, 1, 0) := rfl
theorem at_168_102 : am_at am_m168 102 = some (.aload 0, 1, 0) := rfl
theorem at_168_103 : am_at am_m168 103 = some (.getfield 910, 3, 23) := rfl
theorem at_168_106 : am_at am_m168 106 = some (.iload 1, 1, 0) := rfl
theorem at_168_107 : am_at am_m168 107 = some (.iaload, 1, 0) := rfl
theorem at_168_108 : am_at am_m168 108 = some (.invokevirtual 163, 3, 297) := rfl
theorem at_168_111 : am_at am_m168 111 = some (.laload, 1, 0) := rfl
theorem at_168_112 : am_at am_m168 112 = some (.putfield 954, 3, 289) := rfl
theorem at_168_115 : am_at am_m168 115 = some (.goto 316, 3, 0) := rfl
theorem at_168_118 : am_at am_m168 118 = some (.aload 0, 1, 0) := rfl
theorem at_168_119 : am_at am_m168 119 = some (.iconst 1, 1, 0) := rfl
theorem at_168_120 : am_at am_m168 120 = some (.iload 1, 1, 0) := rfl
theorem at_168_121 : am_at am_m168 121 = some (.invokevirtual 158, 3, 300) := rfl
theorem at_168_124 : am_at am_m168 124 = some (.ifCond .ne 128, 3, 0) := rfl
theorem at_168_127 : am_at am_m168 127 = some (.return_, 1, 0) := rfl
theorem at_168_128 : am_at am_m168 128 = some (.aload 0, 1, 0) := rfl
theorem at_168_129 : am_at am_m168 129 = some (.getfield 937, 3, 73) := rfl
theorem at_168_132 : am_at am_m168 132 = some (.aload 0, 1, 0) := rfl
theorem at_168_133 : am_at am_m168 133 = some (.getfield 939, 3, 250) := rfl
theorem at_168_136 : am_at am_m168 136 = some (.iload 1, 1, 0) := rfl
theorem at_168_137 : am_at am_m168 137 = some (.iastore, 1, 0) := rfl
theorem at_168_138 : am_at am_m168 138 = some (.aload 0, 1, 0) := rfl
theorem at_168_139 : am_at am_m168 139 = some (.getfield 938, 3, 76) := rfl
theorem at_168_142 : am_at am_m168 142 = some (.aload 0, 1, 0) := rfl
theorem at_168_143 : am_at am_m168 143 = some (.getfield 939, 3, 250) := rfl
theorem at_168_146 : am_at am_m168 146 = some (.aload 0, 1, 0) := rfl
theorem at_168_147 : am_at am_m168 147 = some (.getfield 952, 3, 259) := rfl
theorem at_168_150 : am_at am_m168 150 = some (.iastore, 1, 0) := rfl
theorem at_168_151 : am_at am_m168 151 = some (.aload 0, 1, 0) := rfl
theorem at_168_152 : am_at am_m168 152 = some (.iconst 3, 1, 0) := rfl
theorem at_168_153 : am_at am_m168 153 = some (.aload 0, 1, 0) := rfl
theorem at_168_154 : am_at am_m168 154 = some (.getfield 939, 3, 250) := rfl
theorem at_168_157 : am_at am_m168 157 = some (.invokestatic 156, 3, 293) := rfl
theorem at_168_160 : am_at am_m168 160 = some (.putfield 954, 3, 289) := rfl
theorem at_168_163 : am_at am_m168 163 = some (.aload 0, 1, 0) := rfl
theorem at_168_164 : am_at am_m168 164 = some (.dup, 1, 0) := rfl
theorem at_168_165 : am_at am_m168 165 = some (.getfield 939, 3, 250) := rfl
theorem at_168_168 : am_at am_m168 168 = some (.iconst 1, 1, 0) := rfl
theorem at_168_169 : am_at am_m168 169 = some (.iadd, 1, 0) := rfl
theorem at_168_170 : am_at am_m168 170 = some (.putfield 939, 3, 250) := rfl
theorem at_168_173 : am_at am_m168 173 = some (.goto 316, 3, 0) := rfl
theorem at_168_176 : am_at am_m168 176 = some (.aload 0, 1, 0) := rfl
theorem at_168_177 : am_at am_m168 177 = some (.iconst 1, 1, 0) := rfl
theorem at_168_178 : am_at am_m168 178 = some (.iload 1, 1, 0) := rfl
theorem at_168_179 : am_at am_m168 179 = some (.invokevirtual 165, 3, 282) := rfl
theorem at_168_182 : am_at am_m168 182 = some (.aload 0, 1, 0) := rfl
theorem at_168_183 : am_at am_m168 183 = some (.aload 0, 1, 0) := rfl
theorem at_168_184 : am_at am_m168 184 = some (.getfield 911, 3, 26) := rfl
theorem at_168_187 : am_at am_m168 187 = some (.iload 1, 1, 0) := rfl
theorem at_168_188 : am_at am_m168 188 = some (.iaload, 1, 0) := rfl
theorem at_168_189 : am_at am_m168 189 = some (.putfield 953, 3, 265) := rfl
theorem at_168_192 : am_at am_m168 192 = some (.goto 316, 3, 0) := rfl
theorem at_168_195 : am_at am_m168 195 = some (.aload 0, 1, 0) := rfl
theorem at_168_196 : am_at am_m168 196 = some (.iconst 2, 1, 0) := rfl
theorem at_168_197 : am_at am_m168 197 = some (.iload 1, 1, 0) := rfl
theorem at_168_198 : am_at am_m168 198 = some (.invokevirtual 165, 3, 282) := rfl
theorem at_168_201 : am_at am_m168 201 = some (.aload 0, 1, 0) := rfl
theorem at_168_202 : am_at am_m168 202 = some (.aload 0, 1, 0) := rfl
theorem at_168_203 : am_at am_m168 203 = some (.getfield 911, 3, 26) := rfl
theorem at_168_206 : am_at am_m168 206 = some (.iload 1, 1, 0) := rfl
theorem at_168_207 : am_at am_m168 207 = some (.iaload, 1, 0) := rfl
theorem at_168_208 : am_at am_m168 208 = some (.putfield 953, 3, 265) := rfl
theorem at_168_211 : am_at am_m168 211 = some (.goto 316, 3, 0) := rfl
theorem at_168_214 : am_at am_m168 214 = some (.aload 0, 1, 0) := rfl
theorem at_168_215 : am_at am_m168 215 = some (.iconst 1, 1, 0) := rfl
theorem at_168_216 : am_at am_m168 216 = some (.iload 1, 1, 0) := rfl
theorem at_168_217 : am_at am_m168 217 = some (.invokevirtual 158, 3, 300) := rfl
theorem at_168_220 : am_at am_m168 220 = some (.ifCond .ne 224, 3, 0) := rfl
theorem at_168_223 : am_at am_m168 223 = some (.return_, 1, 0) := rfl
theorem at_168_224 : am_at am_m168 224 = some (.aload 0, 1, 0) := rfl
theorem at_168_225 : am_at am_m168 225 = some (.aload 0, 1, 0) := rfl
theorem at_168_226 : am_at am_m168 226 = some (.aload 0, 1, 0) := rfl
theorem at_168_227 : am_at am_m168 227 = some (.getfield 915, 3, 38) := rfl
theorem at_168_230 : am_at am_m168 230 = some (.iconst 4, 1, 0) := rfl
theorem at_168_231 : am_at am_m168 231 = some (.iload 1, 1, 0) := rfl
theorem at_168_232 : am_at am_m168 232 = some (.imul, 1, 0) := rfl
theorem at_168_233 : am_at am_m168 233 = some (.iaload, 1, 0) := rfl
theorem at_168_234 : am_at am_m168 234 = some (.iconst 1, 1, 0) := rfl
theorem at_168_235 : am_at am_m168 235 = some (.iconst 0, 1, 0) := rfl
theorem at_168_236 : am_at am_m168 236 = some (.invokestatic 156, 3, 293) := rfl
theorem at_168_239 : am_at am_m168 239 = some (.aload 0, 1, 0) := rfl
theorem at_168_240 : am_at am_m168 240 = some (.getfield 952, 3, 259) := rfl
theorem at_168_243 : am_at am_m168 243 = some (.invokevirtual 162, 3, 303) := rfl
theorem at_168_246 : am_at am_m168 246 = some (.putfield 952, 3, 259) := rfl
theorem at_168_249 : am_at am_m168 249 = some (.aload 0, 1, 0) := rfl
theorem at_168_250 : am_at am_m168 250 = some (.iconst 3, 1, 0) := rfl
theorem at_168_251 : am_at am_m168 251 = some (.iload 1, 1, 0) := rfl
theorem at_168_252 : am_at am_m168 252 = some (.invokevirtual 165, 3, 282) := rfl
theorem at_168_255 : am_at am_m168 255 = some (.aload 0, 1, 0) := rfl
theorem at_168_256 : am_at am_m168 256 = some (.aload 0, 1, 0) := rfl
theorem at_168_257 : am_at am_m168 257 = some (.getfield 911, 3, 26) := rfl
theorem at_168_260 : am_at am_m168 260 = some (.iload 1, 1, 0) := rfl
theorem at_168_261 : am_at am_m168 261 = some (.iaload, 1, 0) := rfl
theorem at_168_262 : am_at am_m168 262 = some (.putfield 953, 3, 265) := rfl
theorem at_168_265 : am_at am_m168 265 = some (.goto 316, 3, 0) := rfl
theorem at_168_268 : am_at am_m168 268 = some (.aload 0, 1, 0) := rfl
theorem at_168_269 : am_at am_m168 269 = some (.iconst 4, 1, 0) := rfl
theorem at_168_270 : am_at am_m168 270 = some (.iload 1, 1, 0) := rfl
theorem at_168_271 : am_at am_m168 271 = some (.invokevirtual 165, 3, 282) := rfl
theorem at_168_274 : am_at am_m168 274 = some (.aload 0, 1, 0) := rfl
theorem at_168_275 : am_at am_m168 275 = some (.aload 0, 1, 0) := rfl
theorem at_168_276 : am_at am_m168 276 = some (.getfield 911, 3, 26) := rfl
theorem at_168_279 : am_at am_m168 279 = some (.iload 1, 1, 0) := rfl
theorem at_168_280 : am_at am_m168 280 = some (.iaload, 1, 0) := rfl
theorem at_168_281 : am_at am_m168 281 = some (.putfield 953, 3, 265) := rfl
theorem at_168_284 : am_at am_m168 284 = some (.goto 316, 3, 0) := rfl
theorem at_168_287 : am_at am_m168 287 = some (.aload 0, 1, 0) := rfl
theorem at_168_288 : am_at am_m168 288 = some (.aload 0, 1, 0) := rfl
theorem at_168_289 : am_at am_m168 289 = some (.getfield 911, 3, 26) := rfl
theorem at_168_292 : am_at am_m168 292 = some (.iload 1, 1, 0) := rfl
theorem at_168_293 : am_at am_m168 293 = some (.iaload, 1, 0) := rfl
theorem at_168_294 : am_at am_m168 294 = some (.invokevirtual 166, 3, 268) := rfl
theorem at_168_297 : am_at am_m168 297 = some (.goto 316, 3, 0) := rfl
theorem at_168_300 : am_at am_m168 300 = some (.aload 0, 1, 0) := rfl
theorem at_168_301 : am_at am_m168 301 = some (.iconst 5, 1, 0) := rfl
theorem at_168_302 : am_at am_m168 302 = some (.iload 1, 1, 0) := rfl
theorem at_168_303 : am_at am_m168 303 = some (.invokevirtual 165, 3, 282) := rfl
theorem at_168_306 : am_at am_m168 306 = some (.aload 0, 1, 0) := rfl
theorem at_168_307 : am_at am_m168 307 = some (.aload 0, 1, 0) := rfl
theorem at_168_308 : am_at am_m168 308 = some (.getfield 911, 3, 26) := rfl
theorem at_168_311 : am_at am_m168 311 = some (.iload 1, 1, 0) := rfl
theorem at_168_312 : am_at am_m168 312 = some (.iaload, 1, 0) := rfl
theorem at_168_313 : am_at am_m168 313 = some (.putfield 953, 3, 265) := rfl
theorem at_168_316 : am_at am_m168 316 = some (.return_, 1, 0) := rfl
def g_168 (n : Nat) (S : amS) : amQ := az_st (S.1 34 53) fun x1 => az_st (sI S 34 53 ((-1))) fun S2 => az_ck x1 256 (az_st (S2.1 36 x1.toNatClampNeg) fun x3 => if x3 = 0 then (az_ck x1 256 (az_bJ (g_155 (S2.1 38 x1.toNatClampNeg) S2) fun x4 S5 => az_st (sJ S5 34 54 x4) fun S6 => some (.inl none, S6))) else if x3 = 1 then (az_bJ (g_156 1 0 S2) fun x7 S8 => az_st (sJ S8 34 54 x7) fun S9 => some (.inl none, S9)) else if x3 = 2 then (az_ck x1 256 (az_bI (g_163 n (S2.1 38 x1.toNatClampNeg) S2) fun x10 S11 => az_ck x10 120000 (az_st (sJ S11 34 54 (S11.2 57 x10.toNatClampNeg)) fun S12 => some (.inl none, S12)))) else if x3 = 3 then (az_bI (g_158 1 x1 S2) fun x13 S14 => if x13 = 0 then some (.inl none, S14) else az_st (S14.1 34 39) fun x16 => az_ck x16 2000 (az_st (sI S14 54 x16.toNatClampNeg x1) fun S17 => az_st (S17.1 34 39) fun x19 => az_ck x19 2000 (az_st (sI S17 55 x19.toNatClampNeg (S17.1 34 52)) fun S20 => az_bJ (g_156 3 (S20.1 34 39) S20) fun x21 S22 => az_st (sJ S22 34 54 x21) fun S23 => az_st (sI S23 34 39 ((S23.1 34 39) + 1)) fun S24 => some (.inl none, S24)))) else if x3 = 4 then (az_bV (g_165 1 x1 S2) fun S25 => az_ck x1 256 (az_st (sI S25 34 53 (S25.1 39 x1.toNatClampNeg)) fun S26 => some (.inl none, S26))) else if x3 = 5 then (az_bV (g_165 2 x1 S2) fun S27 => az_ck x1 256 (az_st (sI S27 34 53 (S27.1 39 x1.toNatClampNeg)) fun S28 => some (.inl none, S28))) else if x3 = 6 then (az_bI (g_158 1 x1 S2) fun x29 S30 => if x29 = 0 then some (.inl none, S30) else az_ck (4 * x1) 1024 (az_bJ (g_156 1 0 S30) fun x31 S32 => az_bI (g_162 n (S30.1 43 (4 * x1).toNatClampNeg) x31 (S32.1 34 52) S32) fun x33 S34 => az_st (sI S34 34 52 x33) fun S35 => az_bV (g_165 3 x1 S35) fun S36 => az_ck x1 256 (az_st (sI S36 34 53 (S36.1 39 x1.toNatClampNeg)) fun S37 => some (.inl none, S37)))) else if x3 = 7 then (az_bV (g_165 4 x1 S2) fun S38 => az_ck x1 256 (az_st (sI S38 34 53 (S38.1 39 x1.toNatClampNeg)) fun S39 => some (.inl none, S39))) else if x3 = 8 then (az_ck x1 256 (az_bV (g_166 (S2.1 39 x1.toNatClampNeg) S2) fun S40 => some (.inl none, S40))) else az_bV (g_165 5 x1 S2) fun S41 => az_ck x1 256 (az_st (sI S41 34 53 (S41.1 39 x1.toNatClampNeg)) fun S42 => some (.inl none, S42)))
theorem t_168 {X : amX} {d e : Nat} {S0 : amS} {u : Nat → Int64} (hd : 3 ≤ d) (n : Nat)  (S : amS) : AW X d am_m168 (wm S0 u) e 0 [(0, .ref 34)] [] S (g_168 n S) := by
  unfold g_168
  refine aw_aload at_168_0 rfl ?_
  refine aw_getf at_168_1 gf_953 ?_
  refine aw_nameI (fun x1 => ?_)
  refine aw_istore at_168_4 (by decide) rfl rfl ?_
  refine aw_aload at_168_5 rfl ?_
  refine aw_ic (-1) at_168_6 ic_m1 ?_
  refine aw_putf at_168_7 (pf_953 _) (fun S2 => ?_)
  refine aw_aload at_168_10 rfl ?_
  refine aw_getf at_168_11 gf_908 ?_
  refine aw_iload at_168_14 rfl ?_
  refine aw_iald at_168_15 ai_36 ?_
  refine aw_nameI (fun x3 => ?_)
  refine aw_case 0 ?_ (fun h100 => ?_)
  · refine aw_tin 68 at_168_16 (by decide) ?_
    refine aw_aload at_168_68 rfl ?_
    refine aw_aload at_168_69 rfl ?_
    refine aw_getf at_168_70 gf_910 ?_
    refine aw_iload at_168_73 rfl ?_
    refine aw_iald at_168_74 ai_38 ?_
    refine aw_cJ at_168_75 rfl (c_155 (by omega) _ _) (fun _ h => by cases h) rfl (fun x4 S5 => ?_)
    refine aw_putf at_168_78 (pf_954 _) (fun S6 => ?_)
    refine aw_goto at_168_81 ?_
    exact aw_rV at_168_316 rfl
  refine aw_case 1 ?_ (fun h101 => ?_)
  · refine aw_tin 84 at_168_16 (by decide) ?_
    refine aw_aload at_168_84 rfl ?_
    refine aw_ic 1 at_168_85 ic_1 ?_
    refine aw_ic 0 at_168_86 ic_0 ?_
    refine aw_cJ at_168_87 rfl (c_156 (by omega) _ _ _) (fun _ h => by cases h) rfl (fun x7 S8 => ?_)
    refine aw_putf at_168_90 (pf_954 _) (fun S9 => ?_)
    refine aw_goto at_168_93 ?_
    exact aw_rV at_168_316 rfl
  refine aw_case 2 ?_ (fun h102 => ?_)
  · refine aw_tin 96 at_168_16 (by decide) ?_
    refine aw_aload at_168_96 rfl ?_
    refine aw_aload at_168_97 rfl ?_
    refine aw_getf at_168_98 gf_941 ?_
    refine aw_aload at_168_101 rfl ?_
    refine aw_aload at_168_102 rfl ?_
    refine aw_getf at_168_103 gf_910 ?_
    refine aw_iload at_168_106 rfl ?_
    refine aw_iald at_168_107 ai_38 ?_
    refine aw_cI at_168_108 rfl (c_163 (by omega) n _ _) (fun _ h => by cases h) rfl (fun x10 S11 => ?_)
    refine aw_lald at_168_111 ar_57 ?_
    refine aw_putf at_168_112 (pf_954 _) (fun S12 => ?_)
    refine aw_goto at_168_115 ?_
    exact aw_rV at_168_316 rfl
  refine aw_case 3 ?_ (fun h103 => ?_)
  · refine aw_tin 118 at_168_16 (by decide) ?_
    refine aw_aload at_168_118 rfl ?_
    refine aw_ic 1 at_168_119 ic_1 ?_
    refine aw_iload at_168_120 rfl ?_
    refine aw_cI at_168_121 rfl (c_158 (by omega) _ _ _) (fun _ h => by cases h) rfl (fun x13 S14 => ?_)
    refine aw_if_ne at_168_124 ?_ ?_
    · refine aw_aload at_168_128 rfl ?_
      refine aw_getf at_168_129 gf_937 ?_
      refine aw_aload at_168_132 rfl ?_
      refine aw_getf at_168_133 gf_939 ?_
      refine aw_iload at_168_136 rfl ?_
      refine aw_nameK (F := fun z => .int x1 :: .int z :: [.ref 54]) rfl (fun x16 => ?_)
      refine aw_iast at_168_137 ar_54 (as_54 _ _) (fun S17 => ?_)
      refine aw_aload at_168_138 rfl ?_
      refine aw_getf at_168_139 gf_938 ?_
      refine aw_aload at_168_142 rfl ?_
      refine aw_getf at_168_143 gf_939 ?_
      refine aw_aload at_168_146 rfl ?_
      refine aw_getf at_168_147 gf_952 ?_
      refine aw_nameK (F := fun z => .int (S17.1 34 52) :: .int z :: [.ref 55]) rfl (fun x19 => ?_)
      refine aw_iast at_168_150 ar_55 (as_55 _ _) (fun S20 => ?_)
      refine aw_aload at_168_151 rfl ?_
      refine aw_ic 3 at_168_152 ic_3 ?_
      refine aw_aload at_168_153 rfl ?_
      refine aw_getf at_168_154 gf_939 ?_
      refine aw_cJ at_168_157 rfl (c_156 (by omega) _ _ _) (fun _ h => by cases h) rfl (fun x21 S22 => ?_)
      refine aw_putf at_168_160 (pf_954 _) (fun S23 => ?_)
      refine aw_aload at_168_163 rfl ?_
      refine aw_dupA at_168_164 ?_
      refine aw_getf at_168_165 gf_939 ?_
      refine aw_ic 1 at_168_168 ic_1 ?_
      refine aw_iadd at_168_169 ?_
      refine aw_putf at_168_170 (pf_939 _) (fun S24 => ?_)
      refine aw_goto at_168_173 ?_
      exact aw_rV at_168_316 rfl
    · exact aw_rV at_168_127 rfl
  refine aw_case 4 ?_ (fun h104 => ?_)
  · refine aw_tin 176 at_168_16 (by decide) ?_
    refine aw_aload at_168_176 rfl ?_
    refine aw_ic 1 at_168_177 ic_1 ?_
    refine aw_iload at_168_178 rfl ?_
    refine aw_cV at_168_179 rfl (c_165 (by omega) _ _ _) (fun _ h => by cases h) rfl (fun S25 => ?_)
    refine aw_aload at_168_182 rfl ?_
    refine aw_aload at_168_183 rfl ?_
    refine aw_getf at_168_184 gf_911 ?_
    refine aw_iload at_168_187 rfl ?_
    refine aw_iald at_168_188 ai_39 ?_
    refine aw_putf at_168_189 (pf_953 _) (fun S26 => ?_)
    refine aw_goto at_168_192 ?_
    exact aw_rV at_168_316 rfl
  refine aw_case 5 ?_ (fun h105 => ?_)
  · refine aw_tin 195 at_168_16 (by decide) ?_
    refine aw_aload at_168_195 rfl ?_
    refine aw_ic 2 at_168_196 ic_2 ?_
    refine aw_iload at_168_197 rfl ?_
    refine aw_cV at_168_198 rfl (c_165 (by omega) _ _ _) (fun _ h => by cases h) rfl (fun S27 => ?_)
    refine aw_aload at_168_201 rfl ?_
    refine aw_aload at_168_202 rfl ?_
    refine aw_getf at_168_203 gf_911 ?_
    refine aw_iload at_168_206 rfl ?_
    refine aw_iald at_168_207 ai_39 ?_
    refine aw_putf at_168_208 (pf_953 _) (fun S28 => ?_)
    refine aw_goto at_168_211 ?_
    exact aw_rV at_168_316 rfl
  refine aw_case 6 ?_ (fun h106 => ?_)
  · refine aw_tin 214 at_168_16 (by decide) ?_
    refine aw_aload at_168_214 rfl ?_
    refine aw_ic 1 at_168_215 ic_1 ?_
    refine aw_iload at_168_216 rfl ?_
    refine aw_cI at_168_217 rfl (c_158 (by omega) _ _ _) (fun _ h => by cases h) rfl (fun x29 S30 => ?_)
    refine aw_if_ne at_168_220 ?_ ?_
    · refine aw_aload at_168_224 rfl ?_
      refine aw_aload at_168_225 rfl ?_
      refine aw_aload at_168_226 rfl ?_
      refine aw_getf at_168_227 gf_915 ?_
      refine aw_ic 4 at_168_230 ic_4 ?_
      refine aw_iload at_168_231 rfl ?_
      refine aw_imul at_168_232 ?_
      refine aw_iald at_168_233 ai_43 ?_
      refine aw_ic 1 at_168_234 ic_1 ?_
      refine aw_ic 0 at_168_235 ic_0 ?_
      refine aw_cJ at_168_236 rfl (c_156 (by omega) _ _ _) (fun _ h => by cases h) rfl (fun x31 S32 => ?_)
      refine aw_aload at_168_239 rfl ?_
      refine aw_getf at_168_240 gf_952 ?_
      refine aw_cI at_168_243 rfl (c_162 (by omega) n _ _ _ _) (fun _ h => by cases h) rfl (fun x33 S34 => ?_)
      refine aw_putf at_168_246 (pf_952 _) (fun S35 => ?_)
      refine aw_aload at_168_249 rfl ?_
      refine aw_ic 3 at_168_250 ic_3 ?_
      refine aw_iload at_168_251 rfl ?_
      refine aw_cV at_168_252 rfl (c_165 (by omega) _ _ _) (fun _ h => by cases h) rfl (fun S36 => ?_)
      refine aw_aload at_168_255 rfl ?_
      refine aw_aload at_168_256 rfl ?_
      refine aw_getf at_168_257 gf_911 ?_
      refine aw_iload at_168_260 rfl ?_
      refine aw_iald at_168_261 ai_39 ?_
      refine aw_putf at_168_262 (pf_953 _) (fun S37 => ?_)
      refine aw_goto at_168_265 ?_
      exact aw_rV at_168_316 rfl
    · exact aw_rV at_168_223 rfl
  refine aw_case 7 ?_ (fun h107 => ?_)
  · refine aw_tin 268 at_168_16 (by decide) ?_
    refine aw_aload at_168_268 rfl ?_
    refine aw_ic 4 at_168_269 ic_4 ?_
    refine aw_iload at_168_270 rfl ?_
    refine aw_cV at_168_271 rfl (c_165 (by omega) _ _ _) (fun _ h => by cases h) rfl (fun S38 => ?_)
    refine aw_aload at_168_274 rfl ?_
    refine aw_aload at_168_275 rfl ?_
    refine aw_getf at_168_276 gf_911 ?_
    refine aw_iload at_168_279 rfl ?_
    refine aw_iald at_168_280 ai_39 ?_
    refine aw_putf at_168_281 (pf_953 _) (fun S39 => ?_)
    refine aw_goto at_168_284 ?_
    exact aw_rV at_168_316 rfl
  refine aw_case 8 ?_ (fun h108 => ?_)
  · refine aw_tin 287 at_168_16 (by decide) ?_
    refine aw_aload at_168_287 rfl ?_
    refine aw_aload at_168_288 rfl ?_
    refine aw_getf at_168_289 gf_911 ?_
    refine aw_iload at_168_292 rfl ?_
    refine aw_iald at_168_293 ai_39 ?_
    refine aw_cV at_168_294 rfl (c_166 (by omega) _ _) (fun _ h => by cases h) rfl (fun S40 => ?_)
    refine aw_goto at_168_297 ?_
    exact aw_rV at_168_316 rfl
  have h100 := az_ne 0 (n := 0) (by decide) h100
  have h101 := az_ne 1 (n := 1) (by decide) h101
  have h102 := az_ne 2 (n := 2) (by decide) h102
  have h103 := az_ne 3 (n := 3) (by decide) h103
  have h104 := az_ne 4 (n := 4) (by decide) h104
  have h105 := az_ne 5 (n := 5) (by decide) h105
  have h106 := az_ne 6 (n := 6) (by decide) h106
  have h107 := az_ne 7 (n := 7) (by decide) h107
  have h108 := az_ne 8 (n := 8) (by decide) h108
  refine aw_tout at_168_16 (by omega) ?_
  refine aw_aload at_168_300 rfl ?_
  refine aw_ic 5 at_168_301 ic_5 ?_
  refine aw_iload at_168_302 rfl ?_
  refine aw_cV at_168_303 rfl (c_165 (by omega) _ _ _) (fun _ h => by cases h) rfl (fun S41 => ?_)
  refine aw_aload at_168_306 rfl ?_
  refine aw_aload at_168_307 rfl ?_
  refine aw_getf at_168_308 gf_911 ?_
  refine aw_iload at_168_311 rfl ?_
  refine aw_iald at_168_312 ai_39 ?_
  refine aw_putf at_168_313 (pf_953 _) (fun S42 => ?_)
  exact aw_rV at_168_316 rfl
theorem c_168 {X : amX} {d : Nat} {S0 : amS} {u : Nat → Int64} (hd : 4 ≤ d) (n : Nat) (S : amS) : CW X d 168 [.ref 34] (wm S0 u) S (g_168 n S) := cw_up (by omega) (fun d' h => by
  subst h
  exact cw_of rfl (by decide) (Nat.le_of_ble_eq_true rfl) rfl (fun e => t_168 (by omega) n S))
/-! 169: ListDeskModel.bindLet(I)V -/
theorem at_169_0 : am_at am_m169 0 = some (.aload 0, 1, 0) := rfl
theorem at_169_1 : am_at am_m169 1 = some (.getfield 916, 3, 41) := rfl
theorem at_169_4 : am_at am_m169 4 = some (.iload 1, 1, 0) := rfl
theorem at_169_5 : am_at am_m169 5 = some (.iaload, 1, 0) := rfl
theorem at_169_6 : am_at am_m169 6 = some (.istore 2, 1, 0) := rfl
theorem at_169_7 : am_at am_m169 7 = some (.aload 0, 1, 0) := rfl
theorem at_169_8 : am_at am_m169 8 = some (.aload 0, 1, 0) := rfl
theorem at_169_9 : am_at am_m169 9 = some (.iload 1, 1, 0) := rfl
theorem at_169_10 : am_at am_m169 10 = some (.invokevirtual 164, 3, 307) := rfl
theorem at_169_13 : am_at am_m169 13 = some (.iload 1, 1, 0) := rfl
theorem at_169_14 : am_at am_m169 14 = some (.invokevirtual 158, 3, 300) := rfl
theorem at_169_17 : am_at am_m169 17 = some (.ifCond .ne 21, 3, 0) := rfl
theorem at_169_20 : am_at am_m169 20 = some (.return_, 1, 0) := rfl
theorem at_169_21 : am_at am_m169 21 = some (.aload 0, 1, 0) := rfl
theorem at_169_22 : am_at am_m169 22 = some (.dup, 1, 0) := rfl
theorem at_169_23 : am_at am_m169 23 = some (.getfield 951, 3, 256) := rfl
theorem at_169_26 : am_at am_m169 26 = some (.iload 2, 1, 0) := rfl
theorem at_169_27 : am_at am_m169 27 = some (.isub, 1, 0) := rfl
theorem at_169_28 : am_at am_m169 28 = some (.putfield 951, 3, 256) := rfl
theorem at_169_31 : am_at am_m169 31 = some (.iconst 0, 1, 0) := rfl
theorem at_169_32 : am_at am_m169 32 = some (.istore 3, 1, 0) := rfl
theorem at_169_33 : am_at am_m169 33 = some (.iload 3, 1, 0) := rfl
theorem at_169_34 : am_at am_m169 34 = some (.iload 2, 1, 0) := rfl
theorem at_169_35 : am_at am_m169 35 = some (.if_icmp .ge 77, 3, 0) := rfl
theorem at_169_38 : am_at am_m169 38 = some (.aload 0, 1, 0) := rfl
theorem at_169_39 : am_at am_m169 39 = some (.aload 0, 1, 0) := rfl
theorem at_169_40 : am_at am_m169 40 = some (.aload 0, 1, 0) := rfl
theorem at_169_41 : am_at am_m169 41 = some (.getfield 915, 3, 38) := rfl
theorem at_169_44 : am_at am_m169 44 = some (.iconst 4, 1, 0) := rfl
theorem at_169_45 : am_at am_m169 45 = some (.iload 1, 1, 0) := rfl
theorem at_169_46 : am_at am_m169 46 = some (.imul, 1, 0) := rfl
theorem at_169_47 : am_at am_m169 47 = some (.iload 3, 1, 0) := rfl
theorem at_169_48 : am_at am_m169 48 = some (.iadd, 1, 0) := rfl
theorem at_169_49 : am_at am_m169 49 = some (.iaload, 1, 0) := rfl
theorem at_169_50 : am_at am_m169 50 = some (.aload 0, 1, 0) := rfl
theorem at_169_51 : am_at am_m169 51 = some (.getfield 950, 3, 104) := rfl
theorem at_169_54 : am_at am_m169 54 = some (.aload 0, 1, 0) := rfl
theorem at_169_55 : am_at am_m169 55 = some (.getfield 951, 3, 256) := rfl
theorem at_169_58 : am_at am_m169 58 = some (.iload 3, 1, 0) := rfl
theorem at_169_59 : am_at am_m169 59 = some (.iadd, 1, 0) := rfl
theorem at_169_60 : am_at am_m169 60 = some (.laload, 1, 0) := rfl
theorem at_169_61 : am_at am_m169 61 = some (.aload 0, 1, 0) := rfl
theorem at_169_62 : am_at am_m169 62 = some (.getfield 952, 3, 259) := rfl
theorem at_169_65 : am_at am_m169 65 = some (.invokevirtual 162, 3, 303) := rfl
theorem at_169_68 : am_at am_m169 68 = some (.putfield 952, 3, 259) := rfl
theorem at_169_71 : am_at am_m169 71 = some (.iinc 3 1, 3, 0) := rfl
theorem at_169_74 : am_at am_m169 74 = some (.goto 33, 3, 0) := rfl
theorem at_169_77 : am_at am_m169 77 = some (.aload 0, 1, 0) := rfl
theorem at_169_78 : am_at am_m169 78 = some (.aload 0, 1, 0) := rfl
theorem at_169_79 : am_at am_m169 79 = some (.iload 1, 1, 0) := rfl
theorem at_169_80 : am_at am_m169 80 = some (.invokevirtual 167, 3, 310) := rfl
theorem at_169_83 : am_at am_m169 83 = some (.invokevirtual 166, 3, 268) := rfl
theorem at_169_86 : am_at am_m169 86 = some (.return_, 1, 0) := rfl
def h_169_33 (n : Nat) (H33 : Int32 → Int32 → Int32 → amS → amQ) (l1 : Int32) (l2 : Int32) (l3 : Int32) (S : amS) : amQ := if l2 ≤ l3 then az_bI (g_167 n l1 S) fun x1 S2 => az_bV (g_166 x1 S2) fun S3 => some (.inl none, S3) else az_ck ((4 * l1) + l3) 1024 (az_ck ((S.1 34 51) + l3) 16000 (az_bI (g_162 n (S.1 43 ((4 * l1) + l3).toNatClampNeg) (S.2 64 ((S.1 34 51) + l3).toNatClampNeg) (S.1 34 52) S) fun x4 S5 => az_st (sI S5 34 52 x4) fun S6 => H33 l1 l2 (l3 + 1) S6))
def g_169_33 : Nat → Int32 → Int32 → Int32 → amS → amQ
  | 0 => fun _ _ _ _ => none
  | n + 1 => h_169_33 n (g_169_33 n)
theorem th_169_33 {X : amX} {d e : Nat} {S0 : amS} {u : Nat → Int64} {H33 : Int32 → Int32 → Int32 → amS → amQ} (hd : 3 ≤ d) (n : Nat) (hH33 : ∀ (l1 : Int32) (l2 : Int32) (l3 : Int32) (S : amS), AW X d am_m169 (wm S0 u) e 33 [(0, .ref 34), (1, .int l1), (2, .int l2), (3, .int l3)] [] S (H33 l1 l2 l3 S)) (l1 : Int32) (l2 : Int32) (l3 : Int32)  (S : amS) : AW X d am_m169 (wm S0 u) e 33 [(0, .ref 34), (1, .int l1), (2, .int l2), (3, .int l3)] [] S (h_169_33 n H33 l1 l2 l3 S) := by
  unfold h_169_33
  refine aw_iload at_169_33 rfl ?_
  refine aw_iload at_169_34 rfl ?_
  refine aw_icmp_ge at_169_35 ?_ ?_
  · refine aw_aload at_169_77 rfl ?_
    refine aw_aload at_169_78 rfl ?_
    refine aw_iload at_169_79 rfl ?_
    refine aw_cI at_169_80 rfl (c_167 (by omega) n _ _) (fun _ h => by cases h) rfl (fun x1 S2 => ?_)
    refine aw_cV at_169_83 rfl (c_166 (by omega) _ _) (fun _ h => by cases h) rfl (fun S3 => ?_)
    exact aw_rV at_169_86 rfl
  · refine aw_aload at_169_38 rfl ?_
    refine aw_aload at_169_39 rfl ?_
    refine aw_aload at_169_40 rfl ?_
    refine aw_getf at_169_41 gf_915 ?_
    refine aw_ic 4 at_169_44 ic_4 ?_
    refine aw_iload at_169_45 rfl ?_
    refine aw_imul at_169_46 ?_
    refine aw_iload at_169_47 rfl ?_
    refine aw_iadd at_169_48 ?_
    refine aw_iald at_169_49 ai_43 ?_
    refine aw_aload at_169_50 rfl ?_
    refine aw_getf at_169_51 gf_950 ?_
    refine aw_aload at_169_54 rfl ?_
    refine aw_getf at_169_55 gf_951 ?_
    refine aw_iload at_169_58 rfl ?_
    refine aw_iadd at_169_59 ?_
    refine aw_lald at_169_60 ar_64 ?_
    refine aw_aload at_169_61 rfl ?_
    refine aw_getf at_169_62 gf_952 ?_
    refine aw_cI at_169_65 rfl (c_162 (by omega) n _ _ _ _) (fun _ h => by cases h) rfl (fun x4 S5 => ?_)
    refine aw_putf at_169_68 (pf_952 _) (fun S6 => ?_)
    refine aw_iinc at_169_71 rfl (by decide) rfl ic_1 rfl ?_
    refine aw_goto at_169_74 ?_
    exact aw_sub (al_cons rfl (al_cons rfl (al_cons rfl (al_cons rfl al_nil)))) (hH33 l1 l2 (l3 + 1) S6)
theorem t_169_33 {X : amX} {d e : Nat} {S0 : amS} {u : Nat → Int64} (hd : 3 ≤ d) : ∀ (n : Nat)  (l1 : Int32) (l2 : Int32) (l3 : Int32) (S : amS), AW X d am_m169 (wm S0 u) e 33 [(0, .ref 34), (1, .int l1), (2, .int l2), (3, .int l3)] [] S (g_169_33 n l1 l2 l3 S)
  | 0, _, _, _, _ => aw_none
  | n + 1, l1, l2, l3, S => th_169_33 hd n (t_169_33 hd n) l1 l2 l3 S
def g_169 (n : Nat) (l1 : Int32) (S : amS) : amQ := az_ck l1 256 (az_st (S.1 44 l1.toNatClampNeg) fun x1 => az_bI (g_164 n l1 S) fun x2 S3 => az_bI (g_158 x2 l1 S3) fun x4 S5 => if x4 = 0 then some (.inl none, S5) else az_st (sI S5 34 51 ((S5.1 34 51) - x1)) fun S6 => g_169_33 n l1 x1 0 S6)
theorem t_169 {X : amX} {d e : Nat} {S0 : amS} {u : Nat → Int64} (hd : 3 ≤ d) (n : Nat)  (l1 : Int32) (S : amS) : AW X d am_m169 (wm S0 u) e 0 [(0, .ref 34), (1, .int l1)] [] S (g_169 n l1 S) := by
  unfold g_169
  refine aw_aload at_169_0 rfl ?_
  refine aw_getf at_169_1 gf_916 ?_
  refine aw_iload at_169_4 rfl ?_
  refine aw_iald at_169_5 ai_44 ?_
  refine aw_nameI (fun x1 => ?_)
  refine aw_istore at_169_6 (by decide) rfl rfl ?_
  refine aw_aload at_169_7 rfl ?_
  refine aw_aload at_169_8 rfl ?_
  refine aw_iload at_169_9 rfl ?_
  refine aw_cI at_169_10 rfl (c_164 (by omega) n _ _) (fun _ h => by cases h) rfl (fun x2 S3 => ?_)
  refine aw_iload at_169_13 rfl ?_
  refine aw_cI at_169_14 rfl (c_158 (by omega) _ _ _) (fun _ h => by cases h) rfl (fun x4 S5 => ?_)
  refine aw_if_ne at_169_17 ?_ ?_
  · refine aw_aload at_169_21 rfl ?_
    refine aw_dupA at_169_22 ?_
    refine aw_getf at_169_23 gf_951 ?_
    refine aw_iload at_169_26 rfl ?_
    refine aw_isub at_169_27 ?_
    refine aw_putf at_169_28 (pf_951 _) (fun S6 => ?_)
    refine aw_ic 0 at_169_31 ic_0 ?_
    refine aw_istore at_169_32 (by decide) rfl rfl ?_
    exact aw_sub (al_cons rfl (al_cons rfl (al_cons rfl (al_cons rfl al_nil)))) (t_169_33 (by omega) n l1 x1 0 S6)
  · exact aw_rV at_169_20 rfl
theorem c_169 {X : amX} {d : Nat} {S0 : amS} {u : Nat → Int64} (hd : 4 ≤ d) (n : Nat) (l1 : Int32) (S : amS) : CW X d 169 [.ref 34, .int l1] (wm S0 u) S (g_169 n l1 S) := cw_up (by omega) (fun d' h => by
  subst h
  exact cw_of rfl (by decide) (Nat.le_of_ble_eq_true rfl) rfl (fun e => t_169 (by omega) n l1 S))
/-! 170: ListDeskModel.call(I)V -/
theorem at_170_0 : am_at am_m170 0 = some (.aload 0, 1, 0) := rfl
theorem at_170_1 : am_at am_m170 1 = some (.getfield 914, 3, 35) := rfl
theorem at_170_4 : am_at am_m170 4 = some (.iload 1, 1, 0) := rfl
theorem at_170_5 : am_at am_m170 5 = some (.iaload, 1, 0) := rfl
theorem at_170_6 : am_at am_m170 6 = some (.iconst 1, 1, 0) := rfl
theorem at_170_7 : am_at am_m170 7 = some (.isub, 1, 0) := rfl
theorem at_170_8 : am_at am_m170 8 = some (.istore 2, 1, 0) := rfl
theorem at_170_9 : am_at am_m170 9 = some (.aload 0, 1, 0) := rfl
theorem at_170_10 : am_at am_m170 10 = some (.dup, 1, 0) := rfl
theorem at_170_11 : am_at am_m170 11 = some (.getfield 951, 3, 256) := rfl
theorem at_170_14 : am_at am_m170 14 = some (.iload 2, 1, 0) := rfl
theorem at_170_15 : am_at am_m170 15 = some (.iconst 1, 1, 0) := rfl
theorem at_170_16 : am_at am_m170 16 = some (.iadd, 1, 0) := rfl
theorem at_170_17 : am_at am_m170 17 = some (.isub, 1, 0) := rfl
theorem at_170_18 : am_at am_m170 18 = some (.putfield 951, 3, 256) := rfl
theorem at_170_21 : am_at am_m170 21 = some (.aload 0, 1, 0) := rfl
theorem at_170_22 : am_at am_m170 22 = some (.getfield 950, 3, 104) := rfl
theorem at_170_25 : am_at am_m170 25 = some (.aload 0, 1, 0) := rfl
theorem at_170_26 : am_at am_m170 26 = some (.getfield 951, 3, 256) := rfl
theorem at_170_29 : am_at am_m170 29 = some (.laload, 1, 0) := rfl
theorem at_170_30 : am_at am_m170 30 = some (.lstore 3, 1, 0) := rfl
theorem at_170_31 : am_at am_m170 31 = some (.lload 3, 1, 0) := rfl
theorem at_170_32 : am_at am_m170 32 = some (.invokestatic 157, 3, 313) := rfl
theorem at_170_35 : am_at am_m170 35 = some (.iconst 3, 1, 0) := rfl
theorem at_170_36 : am_at am_m170 36 = some (.if_icmp .ne 49, 3, 0) := rfl
theorem at_170_39 : am_at am_m170 39 = some (.aload 0, 1, 0) := rfl
theorem at_170_40 : am_at am_m170 40 = some (.getfield 937, 3, 73) := rfl
theorem at_170_43 : am_at am_m170 43 = some (.lload 3, 1, 0) := rfl
theorem at_170_44 : am_at am_m170 44 = some (.l2i, 1, 0) := rfl
theorem at_170_45 : am_at am_m170 45 = some (.iaload, 1, 0) := rfl
theorem at_170_46 : am_at am_m170 46 = some (.goto 50, 3, 0) := rfl
theorem at_170_49 : am_at am_m170 49 = some (.iconst (-1), 1, 0) := rfl
theorem at_170_50 : am_at am_m170 50 = some (.istore 5, 2, 0) := rfl
theorem at_170_52 : am_at am_m170 52 = some (.iload 5, 2, 0) := rfl
theorem at_170_54 : am_at am_m170 54 = some (.ifCond .lt 68, 3, 0) := rfl
theorem at_170_57 : am_at am_m170 57 = some (.aload 0, 1, 0) := rfl
theorem at_170_58 : am_at am_m170 58 = some (.getfield 916, 3, 41) := rfl
theorem at_170_61 : am_at am_m170 61 = some (.iload 5, 2, 0) := rfl
theorem at_170_63 : am_at am_m170 63 = some (.iaload, 1, 0) := rfl
theorem at_170_64 : am_at am_m170 64 = some (.iload 2, 1, 0) := rfl
theorem at_170_65 : am_at am_m170 65 = some (.if_icmp .eq 75, 3, 0) := rfl
theorem at_170_68 : am_at am_m170 68 = some (.aload 0, 1, 0) := rfl
theorem at_170_69 : am_at am_m170 69 = some (.iconst 3, 1, 0) := rfl
theorem at_170_70 : am_at am_m170 70 = some (.iload 1, 1, 0) := rfl
theorem at_170_71 : am_at am_m170 71 = some (.invokevirtual 159, 3, 273) := rfl
theorem at_170_74 : am_at am_m170 74 = some (.return_, 1, 0) := rfl
theorem at_170_75 : am_at am_m170 75 = some (.aload 0, 1, 0) := rfl
theorem at_170_76 : am_at am_m170 76 = some (.getfield 917, 3, 44) := rfl
theorem at_170_79 : am_at am_m170 79 = some (.iload 1, 1, 0) := rfl
theorem at_170_80 : am_at am_m170 80 = some (.baload, 1, 0) := rfl
theorem at_170_81 : am_at am_m170 81 = some (.ifCond .ne 100, 3, 0) := rfl
theorem at_170_84 : am_at am_m170 84 = some (.aload 0, 1, 0) := rfl
theorem at_170_85 : am_at am_m170 85 = some (.getfield 932, 3, 235) := rfl
theorem at_170_88 : am_at am_m170 88 = some (.iconst 60, 2, 1) := rfl
theorem at_170_90 : am_at am_m170 90 = some (.if_icmp .ne 100, 3, 0) := rfl
theorem at_170_93 : am_at am_m170 93 = some (.aload 0, 1, 0) := rfl
theorem at_170_94 : am_at am_m170 94 = some (.iconst 4, 1, 0) := rfl
theorem at_170_95 : am_at am_m170 95 = some (.iload 1, 1, 0) := rfl
theorem at_170_96 : am_at am_m170 96 = some (.invokevirtual 159, 3, 273) := rfl
theorem at_170_99 : am_at am_m170 99 = some (.return_, 1, 0) := rfl
theorem at_170_100 : am_at am_m170 100 = some (.aload 0, 1, 0) := rfl
theorem at_170_101 : am_at am_m170 101 = some (.getfield 917, 3, 44) := rfl
theorem at_170_104 : am_at am_m170 104 = some (.iload 1, 1, 0) := rfl
theorem at_170_105 : am_at am_m170 105 = some (.baload, 1, 0) := rfl
theorem at_170_106 : am_at am_m170 106 = some (.ifCond .ne 126, 3, 0) := rfl
theorem at_170_109 : am_at am_m170 109 = some (.aload 0, 1, 0) := rfl
theorem at_170_110 : am_at am_m170 110 = some (.iconst 6, 2, 1) := rfl
theorem at_170_112 : am_at am_m170 112 = some (.iload 1, 1, 0) := rfl
theorem at_170_113 : am_at am_m170 113 = some (.invokevirtual 165, 3, 282) := rfl
theorem at_170_116 : am_at am_m170 116 = some (.aload 0, 1, 0) := rfl
theorem at_170_117 : am_at am_m170 117 = some (.dup, 1, 0) := rfl
theorem at_170_118 : am_at am_m170 118 = some (.getfield 932, 3, 235) := rfl
theorem at_170_121 : am_at am_m170 121 = some (.iconst 1, 1, 0) := rfl
theorem at_170_122 : am_at am_m170 122 = some (.iadd, 1, 0) := rfl
theorem at_170_123 : am_at am_m170 123 = some (.putfield 932, 3, 235) := rfl
theorem at_170_126 : am_at am_m170 126 = some (.aload 0, 1, 0) := rfl
theorem at_170_127 : am_at am_m170 127 = some (.aload 0, 1, 0) := rfl
theorem at_170_128 : am_at am_m170 128 = some (.iload 5, 2, 0) := rfl
theorem at_170_130 : am_at am_m170 130 = some (.invokevirtual 164, 3, 307) := rfl
theorem at_170_133 : am_at am_m170 133 = some (.iload 1, 1, 0) := rfl
theorem at_170_134 : am_at am_m170 134 = some (.invokevirtual 158, 3, 300) := rfl
theorem at_170_137 : am_at am_m170 137 = some (.ifCond .ne 141, 3, 0) := rfl
theorem at_170_140 : am_at am_m170 140 = some (.return_, 1, 0) := rfl
theorem at_170_141 : am_at am_m170 141 = some (.aload 0, 1, 0) := rfl
theorem at_170_142 : am_at am_m170 142 = some (.aload 0, 1, 0) := rfl
theorem at_170_143 : am_at am_m170 143 = some (.getfield 938, 3, 76) := rfl
theorem at_170_146 : am_at am_m170 146 = some (.lload 3, 1, 0) := rfl
theorem at_170_147 : am_at am_m170 147 = some (.l2i, 1, 0) := rfl
theorem at_170_148 : am_at am_m170 148 = some (.iaload, 1, 0) := rfl
theorem at_170_149 : am_at am_m170 149 = some (.putfield 952, 3, 259) := rfl
theorem at_170_152 : am_at am_m170 152 = some (.iconst 0, 1, 0) := rfl
theorem at_170_153 : am_at am_m170 153 = some (.istore 6, 2, 0) := rfl
theorem at_170_155 : am_at am_m170 155 = some (.iload 6, 2, 0) := rfl
theorem at_170_157 : am_at am_m170 157 = some (.iload 2, 1, 0) := rfl
theorem at_170_158 : am_at am_m170 158 = some (.if_icmp .ge 205, 3, 0) := rfl
theorem at_170_161 : am_at am_m170 161 = some (.aload 0, 1, 0) := rfl
theorem at_170_162 : am_at am_m170 162 = some (.aload 0, 1, 0) := rfl
theorem at_170_163 : am_at am_m170 163 = some (.aload 0, 1, 0) := rfl
theorem at_170_164 : am_at am_m170 164 = some (.getfield 915, 3, 38) := rfl
theorem at_170_167 : am_at am_m170 167 = some (.iconst 4, 1, 0) := rfl
theorem at_170_168 : am_at am_m170 168 = some (.iload 5, 2, 0) := rfl
theorem at_170_170 : am_at am_m170 170 = some (.imul, 1, 0) := rfl
theorem at_170_171 : am_at am_m170 171 = some (.iload 6, 2, 0) := rfl
theorem at_170_173 : am_at am_m170 173 = some (.iadd, 1, 0) := rfl
theorem at_170_174 : am_at am_m170 174 = some (.iaload, 1, 0) := rfl
theorem at_170_175 : am_at am_m170 175 = some (.aload 0, 1, 0) := rfl
theorem at_170_176 : am_at am_m170 176 = some (.getfield 950, 3, 104) := rfl
theorem at_170_179 : am_at am_m170 179 = some (.aload 0, 1, 0) := rfl
theorem at_170_180 : am_at am_m170 180 = some (.getfield 951, 3, 256) := rfl
theorem at_170_183 : am_at am_m170 183 = some (.iconst 1, 1, 0) := rfl
theorem at_170_184 : am_at am_m170 184 = some (.iadd, 1, 0) := rfl
theorem at_170_185 : am_at am_m170 185 = some (.iload 6, 2, 0) := rfl
theorem at_170_187 : am_at am_m170 187 = some (.iadd, 1, 0) := rfl
theorem at_170_188 : am_at am_m170 188 = some (.laload, 1, 0) := rfl
theorem at_170_189 : am_at am_m170 189 = some (.aload 0, 1, 0) := rfl
theorem at_170_190 : am_at am_m170 190 = some (.getfield 952, 3, 259) := rfl
theorem at_170_193 : am_at am_m170 193 = some (.invokevirtual 162, 3, 303) := rfl
theorem at_170_196 : am_at am_m170 196 = some (.putfield 952, 3, 259) := rfl
theorem at_170_199 : am_at am_m170 199 = some (.iinc 6 1, 3, 0) := rfl
theorem at_170_202 : am_at am_m170 202 = some (.goto 155, 3, 0) := rfl
theorem at_170_205 : am_at am_m170 205 = some (.aload 0, 1, 0) := rfl
theorem at_170_206 : am_at am_m170 206 = some (.aload 0, 1, 0) := rfl
theorem at_170_207 : am_at am_m170 207 = some (.getfield 911, 3, 26) := rfl
theorem at_170_210 : am_at am_m170 210 = some (.iload 5, 2, 0) := rfl
theorem at_170_212 : am_at am_m170 212 = some (.iaload, 1, 0) := rfl
theorem at_170_213 : am_at am_m170 213 = some (.invokevirtual 166, 3, 268) := rfl
theorem at_170_216 : am_at am_m170 216 = some (.return_, 1, 0) := rfl
def h_170_155 (n : Nat) (H155 : Int32 → Int32 → Int32 → amS → amQ) (l2 : Int32) (l5 : Int32) (l6 : Int32) (S : amS) : amQ := if l2 ≤ l6 then az_ck l5 256 (az_bV (g_166 (S.1 39 l5.toNatClampNeg) S) fun S1 => some (.inl none, S1)) else az_ck ((4 * l5) + l6) 1024 (az_ck (((S.1 34 51) + 1) + l6) 16000 (az_bI (g_162 n (S.1 43 ((4 * l5) + l6).toNatClampNeg) (S.2 64 (((S.1 34 51) + 1) + l6).toNatClampNeg) (S.1 34 52) S) fun x2 S3 => az_st (sI S3 34 52 x2) fun S4 => H155 l2 l5 (l6 + 1) S4))
def g_170_155 : Nat → Int32 → Int32 → Int32 → amS → amQ
  | 0 => fun _ _ _ _ => none
  | n + 1 => h_170_155 n (g_170_155 n)
theorem th_170_155 {X : amX} {d e : Nat} {S0 : amS} {u : Nat → Int64} {H155 : Int32 → Int32 → Int32 → amS → amQ} (hd : 3 ≤ d) (n : Nat) (hH155 : ∀ (l2 : Int32) (l5 : Int32) (l6 : Int32) (S : amS), AW X d am_m170 (wm S0 u) e 155 [(0, .ref 34), (2, .int l2), (5, .int l5), (6, .int l6)] [] S (H155 l2 l5 l6 S)) (l2 : Int32) (l5 : Int32) (l6 : Int32)  (S : amS) : AW X d am_m170 (wm S0 u) e 155 [(0, .ref 34), (2, .int l2), (5, .int l5), (6, .int l6)] [] S (h_170_155 n H155 l2 l5 l6 S) := by
  unfold h_170_155
  refine aw_iload at_170_155 rfl ?_
  refine aw_iload at_170_157 rfl ?_
  refine aw_icmp_ge at_170_158 ?_ ?_
  · refine aw_aload at_170_205 rfl ?_
    refine aw_aload at_170_206 rfl ?_
    refine aw_getf at_170_207 gf_911 ?_
    refine aw_iload at_170_210 rfl ?_
    refine aw_iald at_170_212 ai_39 ?_
    refine aw_cV at_170_213 rfl (c_166 (by omega) _ _) (fun _ h => by cases h) rfl (fun S1 => ?_)
    exact aw_rV at_170_216 rfl
  · refine aw_aload at_170_161 rfl ?_
    refine aw_aload at_170_162 rfl ?_
    refine aw_aload at_170_163 rfl ?_
    refine aw_getf at_170_164 gf_915 ?_
    refine aw_ic 4 at_170_167 ic_4 ?_
    refine aw_iload at_170_168 rfl ?_
    refine aw_imul at_170_170 ?_
    refine aw_iload at_170_171 rfl ?_
    refine aw_iadd at_170_173 ?_
    refine aw_iald at_170_174 ai_43 ?_
    refine aw_aload at_170_175 rfl ?_
    refine aw_getf at_170_176 gf_950 ?_
    refine aw_aload at_170_179 rfl ?_
    refine aw_getf at_170_180 gf_951 ?_
    refine aw_ic 1 at_170_183 ic_1 ?_
    refine aw_iadd at_170_184 ?_
    refine aw_iload at_170_185 rfl ?_
    refine aw_iadd at_170_187 ?_
    refine aw_lald at_170_188 ar_64 ?_
    refine aw_aload at_170_189 rfl ?_
    refine aw_getf at_170_190 gf_952 ?_
    refine aw_cI at_170_193 rfl (c_162 (by omega) n _ _ _ _) (fun _ h => by cases h) rfl (fun x2 S3 => ?_)
    refine aw_putf at_170_196 (pf_952 _) (fun S4 => ?_)
    refine aw_iinc at_170_199 rfl (by decide) rfl ic_1 rfl ?_
    refine aw_goto at_170_202 ?_
    exact aw_sub (al_cons rfl (al_cons rfl (al_cons rfl (al_cons rfl al_nil)))) (hH155 l2 l5 (l6 + 1) S4)
theorem t_170_155 {X : amX} {d e : Nat} {S0 : amS} {u : Nat → Int64} (hd : 3 ≤ d) : ∀ (n : Nat)  (l2 : Int32) (l5 : Int32) (l6 : Int32) (S : amS), AW X d am_m170 (wm S0 u) e 155 [(0, .ref 34), (2, .int l2), (5, .int l5), (6, .int l6)] [] S (g_170_155 n l2 l5 l6 S)
  | 0, _, _, _, _ => aw_none
  | n + 1, l2, l5, l6, S => th_170_155 hd n (t_170_155 hd n) l2 l5 l6 S
def g_170_126 (n : Nat) (l1 : Int32) (l2 : Int32) (l3 : Int64) (l5 : Int32) (S : amS) : amQ := az_bI (g_164 n l5 S) fun x1 S2 => az_bI (g_158 x1 l1 S2) fun x3 S4 => if x3 = 0 then some (.inl none, S4) else az_ck (Int64.toInt32 l3) 2000 (az_st (sI S4 34 52 (S4.1 55 (Int64.toInt32 l3).toNatClampNeg)) fun S5 => g_170_155 n l2 l5 0 S5)
theorem t_170_126 {X : amX} {d e : Nat} {S0 : amS} {u : Nat → Int64} (hd : 3 ≤ d) (n : Nat)  (l1 : Int32) (l2 : Int32) (l3 : Int64) (l5 : Int32) (S : amS) : AW X d am_m170 (wm S0 u) e 126 [(0, .ref 34), (1, .int l1), (2, .int l2), (3, .long l3), (5, .int l5)] [] S (g_170_126 n l1 l2 l3 l5 S) := by
  unfold g_170_126
  refine aw_aload at_170_126 rfl ?_
  refine aw_aload at_170_127 rfl ?_
  refine aw_iload at_170_128 rfl ?_
  refine aw_cI at_170_130 rfl (c_164 (by omega) n _ _) (fun _ h => by cases h) rfl (fun x1 S2 => ?_)
  refine aw_iload at_170_133 rfl ?_
  refine aw_cI at_170_134 rfl (c_158 (by omega) _ _ _) (fun _ h => by cases h) rfl (fun x3 S4 => ?_)
  refine aw_if_ne at_170_137 ?_ ?_
  · refine aw_aload at_170_141 rfl ?_
    refine aw_aload at_170_142 rfl ?_
    refine aw_getf at_170_143 gf_938 ?_
    refine aw_lload at_170_146 rfl ?_
    refine aw_l2i at_170_147 ?_
    refine aw_iald at_170_148 ai_55 ?_
    refine aw_putf at_170_149 (pf_952 _) (fun S5 => ?_)
    refine aw_ic 0 at_170_152 ic_0 ?_
    refine aw_istore at_170_153 (by decide) rfl rfl ?_
    exact aw_sub (al_cons rfl (al_cons rfl (al_cons rfl (al_cons rfl al_nil)))) (t_170_155 (by omega) n l2 l5 0 S5)
  · exact aw_rV at_170_140 rfl
def g_170_100 (n : Nat) (l1 : Int32) (l2 : Int32) (l3 : Int64) (l5 : Int32) (S : amS) : amQ := az_ck l1 256 (if (S.1 45 l1.toNatClampNeg) = 0 then az_bV (g_165 6 l1 S) fun S1 => az_st (sI S1 34 32 ((S1.1 34 32) + 1)) fun S2 => g_170_126 n l1 l2 l3 l5 S2 else g_170_126 n l1 l2 l3 l5 S)
theorem t_170_100 {X : amX} {d e : Nat} {S0 : amS} {u : Nat → Int64} (hd : 3 ≤ d) (n : Nat)  (l1 : Int32) (l2 : Int32) (l3 : Int64) (l5 : Int32) (S : amS) : AW X d am_m170 (wm S0 u) e 100 [(0, .ref 34), (1, .int l1), (2, .int l2), (3, .long l3), (5, .int l5)] [] S (g_170_100 n l1 l2 l3 l5 S) := by
  unfold g_170_100
  refine aw_aload at_170_100 rfl ?_
  refine aw_getf at_170_101 gf_917 ?_
  refine aw_iload at_170_104 rfl ?_
  refine aw_zald at_170_105 ar_45 ?_
  refine aw_if_ne at_170_106 ?_ ?_
  · exact aw_sub (al_cons rfl (al_cons rfl (al_cons rfl (al_cons rfl (al_cons rfl al_nil))))) (t_170_126 (by omega) n l1 l2 l3 l5 S)
  · refine aw_aload at_170_109 rfl ?_
    refine aw_ic 6 at_170_110 ic_6 ?_
    refine aw_iload at_170_112 rfl ?_
    refine aw_cV at_170_113 rfl (c_165 (by omega) _ _ _) (fun _ h => by cases h) rfl (fun S1 => ?_)
    refine aw_aload at_170_116 rfl ?_
    refine aw_dupA at_170_117 ?_
    refine aw_getf at_170_118 gf_932 ?_
    refine aw_ic 1 at_170_121 ic_1 ?_
    refine aw_iadd at_170_122 ?_
    refine aw_putf at_170_123 (pf_932 _) (fun S2 => ?_)
    exact aw_sub (al_cons rfl (al_cons rfl (al_cons rfl (al_cons rfl (al_cons rfl al_nil))))) (t_170_126 (by omega) n l1 l2 l3 l5 S2)
def g_170_68 (n : Nat) (l1 : Int32) (S : amS) : amQ := az_bV (g_159 3 l1 S) fun S1 => some (.inl none, S1)
theorem t_170_68 {X : amX} {d e : Nat} {S0 : amS} {u : Nat → Int64} (hd : 3 ≤ d) (n : Nat)  (l1 : Int32) (S : amS) : AW X d am_m170 (wm S0 u) e 68 [(0, .ref 34), (1, .int l1)] [] S (g_170_68 n l1 S) := by
  unfold g_170_68
  refine aw_aload at_170_68 rfl ?_
  refine aw_ic 3 at_170_69 ic_3 ?_
  refine aw_iload at_170_70 rfl ?_
  refine aw_cV at_170_71 rfl (c_159 (by omega) _ _ _) (fun _ h => by cases h) rfl (fun S1 => ?_)
  exact aw_rV at_170_74 rfl
def g_170_50 (n : Nat) (l1 : Int32) (l2 : Int32) (l3 : Int64) (s0 : Int32) (S : amS) : amQ := if s0 < 0 then g_170_68 n l1 S else az_ck s0 256 (if (S.1 44 s0.toNatClampNeg) = l2 then az_ck l1 256 (if (S.1 45 l1.toNatClampNeg) = 0 then if (S.1 34 32) = 60 then az_bV (g_159 4 l1 S) fun S1 => some (.inl none, S1) else g_170_100 n l1 l2 l3 s0 S else g_170_100 n l1 l2 l3 s0 S) else g_170_68 n l1 S)
theorem t_170_50 {X : amX} {d e : Nat} {S0 : amS} {u : Nat → Int64} (hd : 3 ≤ d) (n : Nat)  (l1 : Int32) (l2 : Int32) (l3 : Int64) (s0 : Int32) (S : amS) : AW X d am_m170 (wm S0 u) e 50 [(0, .ref 34), (1, .int l1), (2, .int l2), (3, .long l3)] [.int s0] S (g_170_50 n l1 l2 l3 s0 S) := by
  unfold g_170_50
  refine aw_istore at_170_50 (by decide) rfl rfl ?_
  refine aw_iload at_170_52 rfl ?_
  refine aw_if_lt at_170_54 ?_ ?_
  · exact aw_sub (al_cons rfl (al_cons rfl al_nil)) (t_170_68 (by omega) n l1 S)
  · refine aw_aload at_170_57 rfl ?_
    refine aw_getf at_170_58 gf_916 ?_
    refine aw_iload at_170_61 rfl ?_
    refine aw_iald at_170_63 ai_44 ?_
    refine aw_iload at_170_64 rfl ?_
    refine aw_icmp_eq at_170_65 ?_ ?_
    · refine aw_aload at_170_75 rfl ?_
      refine aw_getf at_170_76 gf_917 ?_
      refine aw_iload at_170_79 rfl ?_
      refine aw_zald at_170_80 ar_45 ?_
      refine aw_if_ne at_170_81 ?_ ?_
      · exact aw_sub (al_cons rfl (al_cons rfl (al_cons rfl (al_cons rfl (al_cons rfl al_nil))))) (t_170_100 (by omega) n l1 l2 l3 s0 S)
      · refine aw_aload at_170_84 rfl ?_
        refine aw_getf at_170_85 gf_932 ?_
        refine aw_ic 60 at_170_88 ic_60 ?_
        refine aw_icmp_ne at_170_90 ?_ ?_
        · exact aw_sub (al_cons rfl (al_cons rfl (al_cons rfl (al_cons rfl (al_cons rfl al_nil))))) (t_170_100 (by omega) n l1 l2 l3 s0 S)
        · refine aw_aload at_170_93 rfl ?_
          refine aw_ic 4 at_170_94 ic_4 ?_
          refine aw_iload at_170_95 rfl ?_
          refine aw_cV at_170_96 rfl (c_159 (by omega) _ _ _) (fun _ h => by cases h) rfl (fun S1 => ?_)
          exact aw_rV at_170_99 rfl
    · exact aw_sub (al_cons rfl (al_cons rfl al_nil)) (t_170_68 (by omega) n l1 S)
def g_170 (n : Nat) (l1 : Int32) (S : amS) : amQ := az_ck l1 256 (az_st ((S.1 42 l1.toNatClampNeg) - 1) fun x1 => az_st (sI S 34 51 ((S.1 34 51) - (x1 + 1))) fun S2 => az_ck (S2.1 34 51) 16000 (az_st (S2.2 64 (S2.1 34 51).toNatClampNeg) fun x3 => az_bI (g_157 x3 S2) fun x4 S5 => if x4 = 3 then az_ck (Int64.toInt32 x3) 2000 (g_170_50 n l1 x1 x3 (S5.1 54 (Int64.toInt32 x3).toNatClampNeg) S5) else g_170_50 n l1 x1 x3 ((-1)) S5))
theorem t_170 {X : amX} {d e : Nat} {S0 : amS} {u : Nat → Int64} (hd : 3 ≤ d) (n : Nat)  (l1 : Int32) (S : amS) : AW X d am_m170 (wm S0 u) e 0 [(0, .ref 34), (1, .int l1)] [] S (g_170 n l1 S) := by
  unfold g_170
  refine aw_aload at_170_0 rfl ?_
  refine aw_getf at_170_1 gf_914 ?_
  refine aw_iload at_170_4 rfl ?_
  refine aw_iald at_170_5 ai_42 ?_
  refine aw_ic 1 at_170_6 ic_1 ?_
  refine aw_isub at_170_7 ?_
  refine aw_nameI (fun x1 => ?_)
  refine aw_istore at_170_8 (by decide) rfl rfl ?_
  refine aw_aload at_170_9 rfl ?_
  refine aw_dupA at_170_10 ?_
  refine aw_getf at_170_11 gf_951 ?_
  refine aw_iload at_170_14 rfl ?_
  refine aw_ic 1 at_170_15 ic_1 ?_
  refine aw_iadd at_170_16 ?_
  refine aw_isub at_170_17 ?_
  refine aw_putf at_170_18 (pf_951 _) (fun S2 => ?_)
  refine aw_aload at_170_21 rfl ?_
  refine aw_getf at_170_22 gf_950 ?_
  refine aw_aload at_170_25 rfl ?_
  refine aw_getf at_170_26 gf_951 ?_
  refine aw_lald at_170_29 ar_64 ?_
  refine aw_nameJ (fun x3 => ?_)
  refine aw_lstore at_170_30 (by decide) rfl rfl ?_
  refine aw_lload at_170_31 rfl ?_
  refine aw_cI at_170_32 rfl (c_157 (by omega) _ _) (fun _ h => by cases h) rfl (fun x4 S5 => ?_)
  refine aw_ic 3 at_170_35 ic_3 ?_
  refine aw_icmp_ne at_170_36 ?_ ?_
  · refine aw_ic (-1) at_170_49 ic_m1 ?_
    exact aw_sub (al_cons rfl (al_cons rfl (al_cons rfl (al_cons rfl al_nil)))) (t_170_50 (by omega) n l1 x1 x3 ((-1)) S5)
  · refine aw_aload at_170_39 rfl ?_
    refine aw_getf at_170_40 gf_937 ?_
    refine aw_lload at_170_43 rfl ?_
    refine aw_l2i at_170_44 ?_
    refine aw_iald at_170_45 ai_54 ?_
    refine aw_goto at_170_46 ?_
    exact aw_sub (al_cons rfl (al_cons rfl (al_cons rfl (al_cons rfl al_nil)))) (t_170_50 (by omega) n l1 x1 x3 (S5.1 54 (Int64.toInt32 x3).toNatClampNeg) S5)
theorem c_170 {X : amX} {d : Nat} {S0 : amS} {u : Nat → Int64} (hd : 4 ≤ d) (n : Nat) (l1 : Int32) (S : amS) : CW X d 170 [.ref 34, .int l1] (wm S0 u) S (g_170 n l1 S) := cw_up (by omega) (fun d' h => by
  subst h
  exact cw_of rfl (by decide) (Nat.le_of_ble_eq_true rfl) rfl (fun e => t_170 (by omega) n l1 S))
