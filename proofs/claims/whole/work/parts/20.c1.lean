/-! 34: ListDesk$Machine.obey(III)V -/
theorem at_34_0 : am_at am_m34 0 = some (.iload 1, 1, 0) := rfl
theorem at_34_1 : am_at am_m34 1 = some (.tableswitch 180 7 16 #[56, 64, 72, 80, 104, 113, 138, 153, 163, 173], 55, 0) := rfl
theorem at_34_56 : am_at am_m34 56 = some (.aload 0, 1, 0) := rfl
theorem at_34_57 : am_at am_m34 57 = some (.iconst 1, 1, 0) := rfl
theorem at_34_58 : am_at am_m34 58 = some (.putfield 313, 3, 48) := rfl
theorem at_34_61 : am_at am_m34 61 = some (.goto 180, 3, 0) := rfl
theorem at_34_64 : am_at am_m34 64 = some (.aload 0, 1, 0) := rfl
theorem at_34_65 : am_at am_m34 65 = some (.invokevirtual 38, 3, 138) := rfl
theorem at_34_68 : am_at am_m34 68 = some (.pop2, 1, 0) := rfl
theorem at_34_69 : am_at am_m34 69 = some (.goto 180, 3, 0) := rfl
theorem at_34_72 : am_at am_m34 72 = some (.aload 0, 1, 0) := rfl
theorem at_34_73 : am_at am_m34 73 = some (.iload 2, 1, 0) := rfl
theorem at_34_74 : am_at am_m34 74 = some (.putfield 310, 3, 65) := rfl
theorem at_34_77 : am_at am_m34 77 = some (.goto 180, 3, 0) := rfl
theorem at_34_80 : am_at am_m34 80 = some (.aload 0, 1, 0) := rfl
theorem at_34_81 : am_at am_m34 81 = some (.aload 0, 1, 0) := rfl
theorem at_34_82 : am_at am_m34 82 = some (.invokevirtual 38, 3, 138) := rfl
theorem at_34_85 : am_at am_m34 85 = some (.jsr_w 0, 1, 0) := rfl
theorem at_34_86 : am_at am_m34 86 = some (.lcmp, 1, 0) := rfl
theorem at_34_87 : am_at am_m34 87 = some (.ifCond .ne 94, 3, 0) := rfl
theorem at_34_90 : am_at am_m34 90 = some (.iload 2, 1, 0) := rfl
theorem at_34_91 : am_at am_m34 91 = some (.goto 98, 3, 0) := rfl
theorem at_34_94 : am_at am_m34 94 = some (.aload 0, 1, 0) := rfl
theorem at_34_95 : am_at am_m34 95 = some (.getfield 310, 3, 65) := rfl
theorem at_34_98 : am_at am_m34 98 = some (.putfield 310, 3, 65) := rfl
theorem at_34_101 : am_at am_m34 101 = some (.goto 180, 3, 0) := rfl
theorem at_34_104 : am_at am_m34 104 = some (.aload 0, 1, 0) := rfl
theorem at_34_105 : am_at am_m34 105 = some (.iload 2, 1, 0) := rfl
theorem at_34_106 : am_at am_m34 106 = some (.iload 3, 1, 0) := rfl
theorem at_34_107 : am_at am_m34 107 = some (.invokevirtual 43, 3, 142) := rfl
theorem at_34_110 : am_at am_m34 110 = some (.goto 180, 3, 0) := rfl
theorem at_34_113 : am_at am_m34 113 = some (.aload 0, 1, 0) := rfl
theorem at_34_114 : am_at am_m34 114 = some (.getfield 303, 3, 26) := rfl
theorem at_34_117 : am_at am_m34 117 = some (.aload 0, 1, 0) := rfl
theorem at_34_118 : am_at am_m34 118 = some (.iload 2, 1, 0) := rfl
theorem at_34_119 : am_at am_m34 119 = some (.invokevirtual 41, 3, 119) := rfl
theorem at_34_122 : am_at am_m34 122 = some (.aload 0, 1, 0) := rfl
theorem at_34_123 : am_at am_m34 123 = some (.aload 0, 1, 0) := rfl
theorem at_34_124 : am_at am_m34 124 = some (.getfield 308, 3, 59) := rfl
theorem at_34_127 : am_at am_m34 127 = some (.iconst 1, 1, 0) := rfl
theorem at_34_128 : am_at am_m34 128 = some (.isub, 1, 0) := rfl
theorem at_34_129 : am_at am_m34 129 = some (.invokevirtual 36, 3, 145) := rfl
theorem at_34_132 : am_at am_m34 132 = some (.invokevirtual 28, 3, 148) := rfl
theorem at_34_135 : am_at am_m34 135 = some (.goto 180, 3, 0) := rfl
theorem at_34_138 : am_at am_m34 138 = some (.aload 0, 1, 0) := rfl
theorem at_34_139 : am_at am_m34 139 = some (.aload 0, 1, 0) := rfl
theorem at_34_140 : am_at am_m34 140 = some (.getfield 308, 3, 59) := rfl
theorem at_34_143 : am_at am_m34 143 = some (.iconst 1, 1, 0) := rfl
theorem at_34_144 : am_at am_m34 144 = some (.isub, 1, 0) := rfl
theorem at_34_145 : am_at am_m34 145 = some (.iload 2, 1, 0) := rfl
theorem at_34_146 : am_at am_m34 146 = some (.isub, 1, 0) := rfl
theorem at_34_147 : am_at am_m34 147 = some (.invokevirtual 39, 3, 152) := rfl
theorem at_34_150 : am_at am_m34 150 = some (.goto 180, 3, 0) := rfl
theorem at_34_153 : am_at am_m34 153 = some (.aload 0, 1, 0) := rfl
theorem at_34_154 : am_at am_m34 154 = some (.iload 2, 1, 0) := rfl
theorem at_34_155 : am_at am_m34 155 = some (.iconst 0, 1, 0) := rfl
theorem at_34_156 : am_at am_m34 156 = some (.iload 3, 1, 0) := rfl
theorem at_34_157 : am_at am_m34 157 = some (.invokevirtual 44, 3, 156) := rfl
theorem at_34_160 : am_at am_m34 160 = some (.goto 180, 3, 0) := rfl
theorem at_34_163 : am_at am_m34 163 = some (.aload 0, 1, 0) := rfl
theorem at_34_164 : am_at am_m34 164 = some (.iload 2, 1, 0) := rfl
theorem at_34_165 : am_at am_m34 165 = some (.iconst 1, 1, 0) := rfl
theorem at_34_166 : am_at am_m34 166 = some (.iload 3, 1, 0) := rfl
theorem at_34_167 : am_at am_m34 167 = some (.invokevirtual 44, 3, 156) := rfl
theorem at_34_170 : am_at am_m34 170 = some (.goto 180, 3, 0) := rfl
theorem at_34_173 : am_at am_m34 173 = some (.aload 0, 1, 0) := rfl
theorem at_34_174 : am_at am_m34 174 = some (.invokevirtual 47, 3, 160) := rfl
theorem at_34_177 : am_at am_m34 177 = some (.goto 180, 3, 0) := rfl
theorem at_34_180 : am_at am_m34 180 = some (.return_, 1, 0) := rfl
def g_34_98 (n : Nat) (s1 : Int32) (S : amS) : amQ := az_st (sI S 24 10 s1) fun S1 => some (.inl none, S1)
theorem t_34_98 {X : amX} {d e : Nat} {R : amS} {u : Nat → Int64} (hd : 4 ≤ d) (n : Nat)  (s1 : Int32) (S : amS) : AW X d am_m34 (wc R u) e 98 [] [.int s1, .ref 24] S (g_34_98 n s1 S) := by
  unfold g_34_98
  refine aw_putf at_34_98 (pf_310 _) (fun S1 => ?_)
  refine aw_goto at_34_101 ?_
  exact aw_rV at_34_180 rfl
def g_34 (n : Nat) (l1 : Int32) (l2 : Int32) (l3 : Int32) (S : amS) : amQ := if l1 = 7 then (az_st (sI S 24 13 1) fun S1 => some (.inl none, S1)) else if l1 = 8 then (az_bJ (g_38 S) fun x2 S3 => some (.inl none, S3)) else if l1 = 9 then (az_st (sI S 24 10 l2) fun S4 => some (.inl none, S4)) else if l1 = 10 then (az_bJ (g_38 S) fun x5 S6 => if (lg_cmp x5 0) = 0 then g_34_98 n l2 S6 else g_34_98 n (S6.1 24 10) S6) else if l1 = 11 then (az_bV (g_43 l2 l3 S) fun S7 => some (.inl none, S7)) else if l1 = 12 then (az_bJ (g_41 l2 S) fun x8 S9 => az_bJ (g_36 ((S9.1 24 8) - 1) S9) fun x10 S11 => az_bV (g_28 x8 x10 S11) fun S12 => some (.inl none, S12)) else if l1 = 13 then (az_bV (g_39 (((S.1 24 8) - 1) - l2) S) fun S13 => some (.inl none, S13)) else if l1 = 14 then (az_bV (g_44 n l2 0 l3 S) fun S14 => some (.inl none, S14)) else if l1 = 15 then (az_bV (g_44 n l2 1 l3 S) fun S15 => some (.inl none, S15)) else if l1 = 16 then (az_bV (g_47 S) fun S16 => some (.inl none, S16)) else some (.inl none, S)
theorem t_34 {X : amX} {d e : Nat} {R : amS} {u : Nat → Int64} (hd : 4 ≤ d) (n : Nat)  (l1 : Int32) (l2 : Int32) (l3 : Int32) (S : amS) : AW X d am_m34 (wc R u) e 0 [(0, .ref 24), (1, .int l1), (2, .int l2), (3, .int l3)] [] S (g_34 n l1 l2 l3 S) := by
  unfold g_34
  refine aw_iload at_34_0 rfl ?_
  refine aw_case 7 ?_ (fun h107 => ?_)
  · refine aw_tin 56 at_34_1 (by decide) ?_
    refine aw_aload at_34_56 rfl ?_
    refine aw_ic 1 at_34_57 ic_1 ?_
    refine aw_putf at_34_58 (pf_313 _) (fun S1 => ?_)
    refine aw_goto at_34_61 ?_
    exact aw_rV at_34_180 rfl
  refine aw_case 8 ?_ (fun h108 => ?_)
  · refine aw_tin 64 at_34_1 (by decide) ?_
    refine aw_aload at_34_64 rfl ?_
    refine aw_cJ at_34_65 rfl (c_38 (by omega) _) (fun _ h => by cases h) rfl (fun x2 S3 => ?_)
    refine aw_pop2J at_34_68 ?_
    refine aw_goto at_34_69 ?_
    exact aw_rV at_34_180 rfl
  refine aw_case 9 ?_ (fun h109 => ?_)
  · refine aw_tin 72 at_34_1 (by decide) ?_
    refine aw_aload at_34_72 rfl ?_
    refine aw_iload at_34_73 rfl ?_
    refine aw_putf at_34_74 (pf_310 _) (fun S4 => ?_)
    refine aw_goto at_34_77 ?_
    exact aw_rV at_34_180 rfl
  refine aw_case 10 ?_ (fun h110 => ?_)
  · refine aw_tin 80 at_34_1 (by decide) ?_
    refine aw_aload at_34_80 rfl ?_
    refine aw_aload at_34_81 rfl ?_
    refine aw_cJ at_34_82 rfl (c_38 (by omega) _) (fun _ h => by cases h) rfl (fun x5 S6 => ?_)
    refine aw_lc 0 at_34_85 (by decide) ?_
    refine aw_lcmp at_34_86 ?_
    refine aw_if_ne at_34_87 ?_ ?_
    · refine aw_aload at_34_94 rfl ?_
      refine aw_getf at_34_95 gf_310 ?_
      exact aw_sub (al_nil) (t_34_98 (by omega) n (S6.1 24 10) S6)
    · refine aw_iload at_34_90 rfl ?_
      refine aw_goto at_34_91 ?_
      exact aw_sub (al_nil) (t_34_98 (by omega) n l2 S6)
  refine aw_case 11 ?_ (fun h111 => ?_)
  · refine aw_tin 104 at_34_1 (by decide) ?_
    refine aw_aload at_34_104 rfl ?_
    refine aw_iload at_34_105 rfl ?_
    refine aw_iload at_34_106 rfl ?_
    refine aw_cV at_34_107 rfl (c_43 (by omega) _ _ _) (fun _ h => by cases h) rfl (fun S7 => ?_)
    refine aw_goto at_34_110 ?_
    exact aw_rV at_34_180 rfl
  refine aw_case 12 ?_ (fun h112 => ?_)
  · refine aw_tin 113 at_34_1 (by decide) ?_
    refine aw_aload at_34_113 rfl ?_
    refine aw_getf at_34_114 gf_303 ?_
    refine aw_aload at_34_117 rfl ?_
    refine aw_iload at_34_118 rfl ?_
    refine aw_cJ at_34_119 rfl (c_41 (by omega) _ _) (fun _ h => by cases h) rfl (fun x8 S9 => ?_)
    refine aw_aload at_34_122 rfl ?_
    refine aw_aload at_34_123 rfl ?_
    refine aw_getf at_34_124 gf_308 ?_
    refine aw_ic 1 at_34_127 ic_1 ?_
    refine aw_isub at_34_128 ?_
    refine aw_cJ at_34_129 rfl (c_36 (by omega) _ _) (fun _ h => by cases h) rfl (fun x10 S11 => ?_)
    refine aw_cV at_34_132 rfl (c_28 (by omega) _ _ _) (fun _ h => by cases h) rfl (fun S12 => ?_)
    refine aw_goto at_34_135 ?_
    exact aw_rV at_34_180 rfl
  refine aw_case 13 ?_ (fun h113 => ?_)
  · refine aw_tin 138 at_34_1 (by decide) ?_
    refine aw_aload at_34_138 rfl ?_
    refine aw_aload at_34_139 rfl ?_
    refine aw_getf at_34_140 gf_308 ?_
    refine aw_ic 1 at_34_143 ic_1 ?_
    refine aw_isub at_34_144 ?_
    refine aw_iload at_34_145 rfl ?_
    refine aw_isub at_34_146 ?_
    refine aw_cV at_34_147 rfl (c_39 (by omega) _ _) (fun _ h => by cases h) rfl (fun S13 => ?_)
    refine aw_goto at_34_150 ?_
    exact aw_rV at_34_180 rfl
  refine aw_case 14 ?_ (fun h114 => ?_)
  · refine aw_tin 153 at_34_1 (by decide) ?_
    refine aw_aload at_34_153 rfl ?_
    refine aw_iload at_34_154 rfl ?_
    refine aw_ic 0 at_34_155 ic_0 ?_
    refine aw_iload at_34_156 rfl ?_
    refine aw_cV at_34_157 rfl (c_44 (by omega) n _ _ _ _) (fun _ h => by cases h) rfl (fun S14 => ?_)
    refine aw_goto at_34_160 ?_
    exact aw_rV at_34_180 rfl
  refine aw_case 15 ?_ (fun h115 => ?_)
  · refine aw_tin 163 at_34_1 (by decide) ?_
    refine aw_aload at_34_163 rfl ?_
    refine aw_iload at_34_164 rfl ?_
    refine aw_ic 1 at_34_165 ic_1 ?_
    refine aw_iload at_34_166 rfl ?_
    refine aw_cV at_34_167 rfl (c_44 (by omega) n _ _ _ _) (fun _ h => by cases h) rfl (fun S15 => ?_)
    refine aw_goto at_34_170 ?_
    exact aw_rV at_34_180 rfl
  refine aw_case 16 ?_ (fun h116 => ?_)
  · refine aw_tin 173 at_34_1 (by decide) ?_
    refine aw_aload at_34_173 rfl ?_
    refine aw_cV at_34_174 rfl (c_47 (by omega) _) (fun _ h => by cases h) rfl (fun S16 => ?_)
    refine aw_goto at_34_177 ?_
    exact aw_rV at_34_180 rfl
  have h107 := az_ne 7 (n := 7) (by decide) h107
  have h108 := az_ne 8 (n := 8) (by decide) h108
  have h109 := az_ne 9 (n := 9) (by decide) h109
  have h110 := az_ne 10 (n := 10) (by decide) h110
  have h111 := az_ne 11 (n := 11) (by decide) h111
  have h112 := az_ne 12 (n := 12) (by decide) h112
  have h113 := az_ne 13 (n := 13) (by decide) h113
  have h114 := az_ne 14 (n := 14) (by decide) h114
  have h115 := az_ne 15 (n := 15) (by decide) h115
  have h116 := az_ne 16 (n := 16) (by decide) h116
  refine aw_tout at_34_1 (by omega) ?_
  exact aw_rV at_34_180 rfl
theorem c_34 {X : amX} {d : Nat} {R : amS} {u : Nat → Int64} (hd : 5 ≤ d) (n : Nat) (l1 : Int32) (l2 : Int32) (l3 : Int32) (S : amS) : CW X d 34 [.ref 24, .int l1, .int l2, .int l3] (wc R u) S (g_34 n l1 l2 l3 S) := cw_up (by omega) (fun d' h => by
  subst h
  exact cw_of rfl (by decide) (Nat.le_of_ble_eq_true rfl) rfl (fun e => t_34 (by omega) n l1 l2 l3 S))
/-! 67: ListDesk$Output.add(I)V -/
theorem at_67_0 : am_at am_m67 0 = some (.aload 0, 1, 0) := rfl
theorem at_67_1 : am_at am_m67 1 = some (.getfield 500, 3, 9) := rfl
theorem at_67_4 : am_at am_m67 4 = some (.aload 0, 1, 0) := rfl
theorem at_67_5 : am_at am_m67 5 = some (.getfield 501, 3, 15) := rfl
theorem at_67_8 : am_at am_m67 8 = some (.iconst 200, 3, 2) := rfl
theorem at_67_11 : am_at am_m67 11 = some (.irem, 1, 0) := rfl
theorem at_67_12 : am_at am_m67 12 = some (.iload 1, 1, 0) := rfl
theorem at_67_13 : am_at am_m67 13 = some (.invokestatic 95, 3, 19) := rfl
theorem at_67_16 : am_at am_m67 16 = some (.aload 0, 1, 0) := rfl
theorem at_67_17 : am_at am_m67 17 = some (.dup, 1, 0) := rfl
theorem at_67_18 : am_at am_m67 18 = some (.getfield 501, 3, 15) := rfl
theorem at_67_21 : am_at am_m67 21 = some (.iconst 1, 1, 0) := rfl
theorem at_67_22 : am_at am_m67 22 = some (.iadd, 1, 0) := rfl
theorem at_67_23 : am_at am_m67 23 = some (.putfield 501, 3, 15) := rfl
theorem at_67_26 : am_at am_m67 26 = some (.return_, 1, 0) := rfl
def g_67 (l1 : Int32) (S : amS) : amQ := az_st (sR S 30 200 (az_rem (S.1 29 1) 200) l1) fun S1 => az_st (sI S1 29 1 ((S1.1 29 1) + 1)) fun S2 => some (.inl none, S2)
theorem t_67 {X : amX} {d e : Nat} {R : amS} {u : Nat → Int64} (hd : 1 ≤ d)  (l1 : Int32) (S : amS) : AW X d am_m67 (wc R u) e 0 [(0, .ref 29), (1, .int l1)] [] S (g_67 l1 S) := by
  unfold g_67
  refine aw_aload at_67_0 rfl ?_
  refine aw_getf at_67_1 gf_500 ?_
  refine aw_aload at_67_4 rfl ?_
  refine aw_getf at_67_5 gf_501 ?_
  refine aw_ic 200 at_67_8 ic_200 ?_
  refine aw_irem at_67_11 (by decide) ?_
  refine aw_iload at_67_12 rfl ?_
  refine aw_pV at_67_13 rfl (cw_95 (by omega) (by decide) (fun e => ar_30) (fun e => al_30) (fun e k x => as_30 k x)) (fun S1 => ?_)
  refine aw_aload at_67_16 rfl ?_
  refine aw_dupA at_67_17 ?_
  refine aw_getf at_67_18 gf_501 ?_
  refine aw_ic 1 at_67_21 ic_1 ?_
  refine aw_iadd at_67_22 ?_
  refine aw_putf at_67_23 (pf_501 _) (fun S2 => ?_)
  exact aw_rV at_67_26 rfl
theorem c_67 {X : amX} {d : Nat} {R : amS} {u : Nat → Int64} (hd : 2 ≤ d) (l1 : Int32) (S : amS) : CW X d 67 [.ref 29, .int l1] (wc R u) S (g_67 l1 S) := cw_up (by omega) (fun d' h => by
  subst h
  exact cw_of rfl (by decide) (Nat.le_of_ble_eq_true rfl) rfl (fun e => t_67 (by omega) l1 S))
/-! 49: ListDesk$Machine.putOut(JI)V -/
theorem at_49_0 : am_at am_m49 0 = some (.lload 1, 1, 0) := rfl
theorem at_49_1 : am_at am_m49 1 = some (.invokestatic 112, 3, 209) := rfl
theorem at_49_4 : am_at am_m49 4 = some (.ifCond .eq 14, 3, 0) := rfl
theorem at_49_7 : am_at am_m49 7 = some (.aload 0, 1, 0) := rfl
theorem at_49_8 : am_at am_m49 8 = some (.iconst 3, 1, 0) := rfl
theorem at_49_9 : am_at am_m49 9 = some (.iload 3, 1, 0) := rfl
theorem at_49_10 : am_at am_m49 10 = some (.invokevirtual 35, 3, 172) := rfl
theorem at_49_13 : am_at am_m49 13 = some (.return_, 1, 0) := rfl
theorem at_49_14 : am_at am_m49 14 = some (.aload 0, 1, 0) := rfl
theorem at_49_15 : am_at am_m49 15 = some (.getfield 304, 3, 33) := rfl
theorem at_49_18 : am_at am_m49 18 = some (.lload 1, 1, 0) := rfl
theorem at_49_19 : am_at am_m49 19 = some (.invokestatic 113, 3, 241) := rfl
theorem at_49_22 : am_at am_m49 22 = some (.invokevirtual 67, 3, 244) := rfl
theorem at_49_25 : am_at am_m49 25 = some (.aload 0, 1, 0) := rfl
theorem at_49_26 : am_at am_m49 26 = some (.jsr_w 4294967296, 3, 117) := rfl
theorem at_49_29 : am_at am_m49 29 = some (.invokevirtual 37, 3, 113) := rfl
theorem at_49_32 : am_at am_m49 32 = some (.return_, 1, 0) := rfl
def g_49 (l1 : Int64) (l3 : Int32) (S : amS) : amQ := az_bI (g_112 l1 S) fun x1 S2 => if x1 = 0 then az_bI (g_113 l1 S2) fun x3 S4 => az_bV (g_67 x3 S4) fun S5 => az_bV (g_37 4294967296 S5) fun S6 => some (.inl none, S6) else az_bV (g_35 3 l3 S2) fun S7 => some (.inl none, S7)
theorem t_49 {X : amX} {d e : Nat} {R : amS} {u : Nat → Int64} (hd : 2 ≤ d)  (l1 : Int64) (l3 : Int32) (S : amS) : AW X d am_m49 (wc R u) e 0 [(0, .ref 24), (1, .long l1), (3, .int l3)] [] S (g_49 l1 l3 S) := by
  unfold g_49
  refine aw_lload at_49_0 rfl ?_
  refine aw_cI at_49_1 rfl (c_112 (by omega) _ _) (fun _ h => by cases h) rfl (fun x1 S2 => ?_)
  refine aw_if_eq at_49_4 ?_ ?_
  · refine aw_aload at_49_14 rfl ?_
    refine aw_getf at_49_15 gf_304 ?_
    refine aw_lload at_49_18 rfl ?_
    refine aw_cI at_49_19 rfl (c_113 (by omega) _ _) (fun _ h => by cases h) rfl (fun x3 S4 => ?_)
    refine aw_cV at_49_22 rfl (c_67 (by omega) _ _) (fun _ h => by cases h) rfl (fun S5 => ?_)
    refine aw_aload at_49_25 rfl ?_
    refine aw_lc 4294967296 at_49_26 (by decide) ?_
    refine aw_cV at_49_29 rfl (c_37 (by omega) _ _) (fun _ h => by cases h) rfl (fun S6 => ?_)
    exact aw_rV at_49_32 rfl
  · refine aw_aload at_49_7 rfl ?_
    refine aw_ic 3 at_49_8 ic_3 ?_
    refine aw_iload at_49_9 rfl ?_
    refine aw_cV at_49_10 rfl (c_35 (by omega) _ _ _) (fun _ h => by cases h) rfl (fun S7 => ?_)
    exact aw_rV at_49_13 rfl
theorem c_49 {X : amX} {d : Nat} {R : amS} {u : Nat → Int64} (hd : 3 ≤ d) (l1 : Int64) (l3 : Int32) (S : amS) : CW X d 49 [.ref 24, .long l1, .int l3] (wc R u) S (g_49 l1 l3 S) := cw_up (by omega) (fun d' h => by
  subst h
  exact cw_of rfl (by decide) (Nat.le_of_ble_eq_true rfl) rfl (fun e => t_49 (by omega) l1 l3 S))
/-! 50: ListDesk$Machine.takeApart(IJI)V -/
theorem at_50_0 : am_at am_m50 0 = some (.lload 2, 1, 0) := rfl
theorem at_50_1 : am_at am_m50 1 = some (.invokestatic 112, 3, 209) := rfl
theorem at_50_4 : am_at am_m50 4 = some (.iconst 2, 1, 0) := rfl
theorem at_50_5 : am_at am_m50 5 = some (.if_icmp .eq 16, 3, 0) := rfl
theorem at_50_8 : am_at am_m50 8 = some (.aload 0, 1, 0) := rfl
theorem at_50_9 : am_at am_m50 9 = some (.iconst 3, 1, 0) := rfl
theorem at_50_10 : am_at am_m50 10 = some (.iload 4, 2, 0) := rfl
theorem at_50_12 : am_at am_m50 12 = some (.invokevirtual 35, 3, 172) := rfl
theorem at_50_15 : am_at am_m50 15 = some (.return_, 1, 0) := rfl
theorem at_50_16 : am_at am_m50 16 = some (.aload 0, 1, 0) := rfl
theorem at_50_17 : am_at am_m50 17 = some (.iload 1, 1, 0) := rfl
theorem at_50_18 : am_at am_m50 18 = some (.iconst 17, 2, 1) := rfl
theorem at_50_20 : am_at am_m50 20 = some (.if_icmp .ne 34, 3, 0) := rfl
theorem at_50_23 : am_at am_m50 23 = some (.aload 0, 1, 0) := rfl
theorem at_50_24 : am_at am_m50 24 = some (.getfield 303, 3, 26) := rfl
theorem at_50_27 : am_at am_m50 27 = some (.lload 2, 1, 0) := rfl
theorem at_50_28 : am_at am_m50 28 = some (.invokevirtual 23, 3, 247) := rfl
theorem at_50_31 : am_at am_m50 31 = some (.goto 42, 3, 0) := rfl
theorem at_50_34 : am_at am_m50 34 = some (.aload 0, 1, 0) := rfl
theorem at_50_35 : am_at am_m50 35 = some (.getfield 303, 3, 26) := rfl
theorem at_50_38 : am_at am_m50 38 = some (.lload 2, 1, 0) := rfl
theorem at_50_39 : am_at am_m50 39 = some (.invokevirtual 24, 3, 250) := rfl
theorem at_50_42 : am_at am_m50 42 = some (.invokevirtual 37, 3, 113) := rfl
theorem at_50_45 : am_at am_m50 45 = some (.return_, 1, 0) := rfl
def g_50_42 (s1 : Int64) (S : amS) : amQ := az_bV (g_37 s1 S) fun S1 => some (.inl none, S1)
theorem t_50_42 {X : amX} {d e : Nat} {R : amS} {u : Nat → Int64} (hd : 2 ≤ d)  (s1 : Int64) (S : amS) : AW X d am_m50 (wc R u) e 42 [] [.long s1, .ref 24] S (g_50_42 s1 S) := by
  unfold g_50_42
  refine aw_cV at_50_42 rfl (c_37 (by omega) _ _) (fun _ h => by cases h) rfl (fun S1 => ?_)
  exact aw_rV at_50_45 rfl
def g_50 (l1 : Int32) (l2 : Int64) (l4 : Int32) (S : amS) : amQ := az_bI (g_112 l2 S) fun x1 S2 => if x1 = 2 then if l1 = 17 then az_bJ (g_23 l2 S2) fun x5 S6 => g_50_42 x5 S6 else az_bJ (g_24 l2 S2) fun x3 S4 => g_50_42 x3 S4 else az_bV (g_35 3 l4 S2) fun S7 => some (.inl none, S7)
theorem t_50 {X : amX} {d e : Nat} {R : amS} {u : Nat → Int64} (hd : 2 ≤ d)  (l1 : Int32) (l2 : Int64) (l4 : Int32) (S : amS) : AW X d am_m50 (wc R u) e 0 [(0, .ref 24), (1, .int l1), (2, .long l2), (4, .int l4)] [] S (g_50 l1 l2 l4 S) := by
  unfold g_50
  refine aw_lload at_50_0 rfl ?_
  refine aw_cI at_50_1 rfl (c_112 (by omega) _ _) (fun _ h => by cases h) rfl (fun x1 S2 => ?_)
  refine aw_ic 2 at_50_4 ic_2 ?_
  refine aw_icmp_eq at_50_5 ?_ ?_
  · refine aw_aload at_50_16 rfl ?_
    refine aw_iload at_50_17 rfl ?_
    refine aw_ic 17 at_50_18 ic_17 ?_
    refine aw_icmp_ne at_50_20 ?_ ?_
    · refine aw_aload at_50_34 rfl ?_
      refine aw_getf at_50_35 gf_303 ?_
      refine aw_lload at_50_38 rfl ?_
      refine aw_cJ at_50_39 rfl (c_24 (by omega) _ _) (fun _ h => by cases h) rfl (fun x3 S4 => ?_)
      exact aw_sub (al_nil) (t_50_42 (by omega) x3 S4)
    · refine aw_aload at_50_23 rfl ?_
      refine aw_getf at_50_24 gf_303 ?_
      refine aw_lload at_50_27 rfl ?_
      refine aw_cJ at_50_28 rfl (c_23 (by omega) _ _) (fun _ h => by cases h) rfl (fun x5 S6 => ?_)
      refine aw_goto at_50_31 ?_
      exact aw_sub (al_nil) (t_50_42 (by omega) x5 S6)
  · refine aw_aload at_50_8 rfl ?_
    refine aw_ic 3 at_50_9 ic_3 ?_
    refine aw_iload at_50_10 rfl ?_
    refine aw_cV at_50_12 rfl (c_35 (by omega) _ _ _) (fun _ h => by cases h) rfl (fun S7 => ?_)
    exact aw_rV at_50_15 rfl
theorem c_50 {X : amX} {d : Nat} {R : amS} {u : Nat → Int64} (hd : 3 ≤ d) (l1 : Int32) (l2 : Int64) (l4 : Int32) (S : amS) : CW X d 50 [.ref 24, .int l1, .long l2, .int l4] (wc R u) S (g_50 l1 l2 l4 S) := cw_up (by omega) (fun d' h => by
  subst h
  exact cw_of rfl (by decide) (Nat.le_of_ble_eq_true rfl) rfl (fun e => t_50 (by omega) l1 l2 l4 S))
/-! 114: ListDesk$Value.truth(Z)J -/
theorem at_114_0 : am_at am_m114 0 = some (.iconst 0, 1, 0) := rfl
theorem at_114_1 : am_at am_m114 1 = some (.iload 0, 1, 0) := rfl
theorem at_114_2 : am_at am_m114 2 = some (.ifCond .eq 9, 3, 0) := rfl
theorem at_114_5 : am_at am_m114 5 = some (.iconst 1, 1, 0) := rfl
theorem at_114_6 : am_at am_m114 6 = some (.goto 10, 3, 0) := rfl
theorem at_114_9 : am_at am_m114 9 = some (.iconst 0, 1, 0) := rfl
theorem at_114_10 : am_at am_m114 10 = some (.invokestatic 111, 3, 11) := rfl
theorem at_114_13 : am_at am_m114 13 = some (.lreturn, 1, 0) := rfl
def g_114_10 (s0 : Int32) (s1 : Int32) (S : amS) : amQ := az_bJ (g_111 s0 s1 S) fun x1 S2 => some (.inl (some (.long x1)), S2)
theorem t_114_10 {X : amX} {d e : Nat} {R : amS} {u : Nat → Int64} (hd : 1 ≤ d)  (s0 : Int32) (s1 : Int32) (S : amS) : AW X d am_m114 (wc R u) e 10 [] [.int s1, .int s0] S (g_114_10 s0 s1 S) := by
  unfold g_114_10
  refine aw_cJ at_114_10 rfl (c_111 (by omega) _ _ _) (fun _ h => by cases h) rfl (fun x1 S2 => ?_)
  exact aw_rJ at_114_13 rfl
def g_114 (l0 : Int32) (S : amS) : amQ := if l0 = 0 then g_114_10 0 0 S else g_114_10 0 1 S
theorem t_114 {X : amX} {d e : Nat} {R : amS} {u : Nat → Int64} (hd : 1 ≤ d)  (l0 : Int32) (S : amS) : AW X d am_m114 (wc R u) e 0 [(0, .int l0)] [] S (g_114 l0 S) := by
  unfold g_114
  refine aw_ic 0 at_114_0 ic_0 ?_
  refine aw_iload at_114_1 rfl ?_
  refine aw_if_eq at_114_2 ?_ ?_
  · refine aw_ic 0 at_114_9 ic_0 ?_
    exact aw_sub (al_nil) (t_114_10 (by omega) 0 0 S)
  · refine aw_ic 1 at_114_5 ic_1 ?_
    refine aw_goto at_114_6 ?_
    exact aw_sub (al_nil) (t_114_10 (by omega) 0 1 S)
theorem c_114 {X : amX} {d : Nat} {R : amS} {u : Nat → Int64} (hd : 2 ≤ d) (l0 : Int32) (S : amS) : CW X d 114 [.int l0] (wc R u) S (g_114 l0 S) := cw_up (by omega) (fun d' h => by
  subst h
  exact cw_of rfl (by decide) (Nat.le_of_ble_eq_true rfl) rfl (fun e => t_114 (by omega) l0 S))
/-! 48: ListDesk$Machine.primitiveOfOne(II)V -/
theorem at_48_0 : am_at am_m48 0 = some (.aload 0, 1, 0) := rfl
theorem at_48_1 : am_at am_m48 1 = some (.invokevirtual 38, 3, 138) := rfl
theorem at_48_4 : am_at am_m48 4 = some (.lstore 3, 1, 0) := rfl
theorem at_48_5 : am_at am_m48 5 = some (.iload 1, 1, 0) := rfl
theorem at_48_6 : am_at am_m48 6 = some (.tableswitch 112 19 22 #[36, 59, 82, 103], 30, 0) := rfl
theorem at_48_36 : am_at am_m48 36 = some (.aload 0, 1, 0) := rfl
theorem at_48_37 : am_at am_m48 37 = some (.lload 3, 1, 0) := rfl
theorem at_48_38 : am_at am_m48 38 = some (.invokestatic 112, 3, 209) := rfl
theorem at_48_41 : am_at am_m48 41 = some (.iconst 2, 1, 0) := rfl
theorem at_48_42 : am_at am_m48 42 = some (.if_icmp .ne 49, 3, 0) := rfl
theorem at_48_45 : am_at am_m48 45 = some (.iconst 1, 1, 0) := rfl
theorem at_48_46 : am_at am_m48 46 = some (.goto 50, 3, 0) := rfl
theorem at_48_49 : am_at am_m48 49 = some (.iconst 0, 1, 0) := rfl
theorem at_48_50 : am_at am_m48 50 = some (.invokestatic 114, 3, 230) := rfl
theorem at_48_53 : am_at am_m48 53 = some (.invokevirtual 37, 3, 113) := rfl
theorem at_48_56 : am_at am_m48 56 = some (.goto 119, 3, 0) := rfl
theorem at_48_59 : am_at am_m48 59 = some (.aload 0, 1, 0) := rfl
theorem at_48_60 : am_at am_m48 60 = some (.lload 3, 1, 0) := rfl
theorem at_48_61 : am_at am_m48 61 = some (.jsr_w 4294967296, 3, 117) := rfl
theorem at_48_64 : am_at am_m48 64 = some (.lcmp, 1, 0) := rfl
theorem at_48_65 : am_at am_m48 65 = some (.ifCond .ne 72, 3, 0) := rfl
theorem at_48_68 : am_at am_m48 68 = some (.iconst 1, 1, 0) := rfl
theorem at_48_69 : am_at am_m48 69 = some (.goto 73, 3, 0) := rfl
theorem at_48_72 : am_at am_m48 72 = some (.iconst 0, 1, 0) := rfl
theorem at_48_73 : am_at am_m48 73 = some (.invokestatic 114, 3, 230) := rfl
theorem at_48_76 : am_at am_m48 76 = some (.invokevirtual 37, 3, 113) := rfl
theorem at_48_79 : am_at am_m48 79 = some (.goto 119, 3, 0) := rfl
theorem at_48_82 : am_at am_m48 82 = some (.aload 0, 1, 0) := rfl
theorem at_48_83 : am_at am_m48 83 = some (.lload 3, 1, 0) := rfl
theorem at_48_84 : am_at am_m48 84 = some (.jsr_w 0, 1, 0) := rfl
theorem at_48_85 : am_at am_m48 85 = some (.lcmp, 1, 0) := rfl
theorem at_48_86 : am_at am_m48 86 = some (.ifCond .ne 93, 3, 0) := rfl
theorem at_48_89 : am_at am_m48 89 = some (.iconst 1, 1, 0) := rfl
theorem at_48_90 : am_at am_m48 90 = some (.goto 94, 3, 0) := rfl
theorem at_48_93 : am_at am_m48 93 = some (.iconst 0, 1, 0) := rfl
theorem at_48_94 : am_at am_m48 94 = some (.invokestatic 114, 3, 230) := rfl
theorem at_48_97 : am_at am_m48 97 = some (.invokevirtual 37, 3, 113) := rfl
theorem at_48_100 : am_at am_m48 100 = some (.goto 119, 3, 0) := rfl
theorem at_48_103 : am_at am_m48 103 = some (.aload 0, 1, 0) := rfl
theorem at_48_104 : am_at am_m48 104 = some (.lload 3, 1, 0) := rfl
theorem at_48_105 : am_at am_m48 105 = some (.iload 2, 1, 0) := rfl
theorem at_48_106 : am_at am_m48 106 = some (.invokevirtual 49, 3, 234) := rfl
theorem at_48_109 : am_at am_m48 109 = some (.goto 119, 3, 0) := rfl
theorem at_48_112 : am_at am_m48 112 = some (.aload 0, 1, 0) := rfl
theorem at_48_113 : am_at am_m48 113 = some (.iload 1, 1, 0) := rfl
theorem at_48_114 : am_at am_m48 114 = some (.lload 3, 1, 0) := rfl
theorem at_48_115 : am_at am_m48 115 = some (.iload 2, 1, 0) := rfl
theorem at_48_116 : am_at am_m48 116 = some (.invokevirtual 50, 3, 237) := rfl
theorem at_48_119 : am_at am_m48 119 = some (.return_, 1, 0) := rfl
def g_48_94 (s1 : Int32) (S : amS) : amQ := az_bJ (g_114 s1 S) fun x1 S2 => az_bV (g_37 x1 S2) fun S3 => some (.inl none, S3)
theorem t_48_94 {X : amX} {d e : Nat} {R : amS} {u : Nat → Int64} (hd : 3 ≤ d)  (s1 : Int32) (S : amS) : AW X d am_m48 (wc R u) e 94 [] [.int s1, .ref 24] S (g_48_94 s1 S) := by
  unfold g_48_94
  refine aw_cJ at_48_94 rfl (c_114 (by omega) _ _) (fun _ h => by cases h) rfl (fun x1 S2 => ?_)
  refine aw_cV at_48_97 rfl (c_37 (by omega) _ _) (fun _ h => by cases h) rfl (fun S3 => ?_)
  refine aw_goto at_48_100 ?_
  exact aw_rV at_48_119 rfl
def g_48_73 (s1 : Int32) (S : amS) : amQ := az_bJ (g_114 s1 S) fun x1 S2 => az_bV (g_37 x1 S2) fun S3 => some (.inl none, S3)
theorem t_48_73 {X : amX} {d e : Nat} {R : amS} {u : Nat → Int64} (hd : 3 ≤ d)  (s1 : Int32) (S : amS) : AW X d am_m48 (wc R u) e 73 [] [.int s1, .ref 24] S (g_48_73 s1 S) := by
  unfold g_48_73
  refine aw_cJ at_48_73 rfl (c_114 (by omega) _ _) (fun _ h => by cases h) rfl (fun x1 S2 => ?_)
  refine aw_cV at_48_76 rfl (c_37 (by omega) _ _) (fun _ h => by cases h) rfl (fun S3 => ?_)
  refine aw_goto at_48_79 ?_
  exact aw_rV at_48_119 rfl
def g_48_50 (s1 : Int32) (S : amS) : amQ := az_bJ (g_114 s1 S) fun x1 S2 => az_bV (g_37 x1 S2) fun S3 => some (.inl none, S3)
theorem t_48_50 {X : amX} {d e : Nat} {R : amS} {u : Nat → Int64} (hd : 3 ≤ d)  (s1 : Int32) (S : amS) : AW X d am_m48 (wc R u) e 50 [] [.int s1, .ref 24] S (g_48_50 s1 S) := by
  unfold g_48_50
  refine aw_cJ at_48_50 rfl (c_114 (by omega) _ _) (fun _ h => by cases h) rfl (fun x1 S2 => ?_)
  refine aw_cV at_48_53 rfl (c_37 (by omega) _ _) (fun _ h => by cases h) rfl (fun S3 => ?_)
  refine aw_goto at_48_56 ?_
  exact aw_rV at_48_119 rfl
def g_48 (l1 : Int32) (l2 : Int32) (S : amS) : amQ := az_bJ (g_38 S) fun x1 S2 => if l1 = 19 then (az_bI (g_112 x1 S2) fun x3 S4 => if x3 = 2 then g_48_50 1 S4 else g_48_50 0 S4) else if l1 = 20 then (if (lg_cmp x1 4294967296) = 0 then g_48_73 1 S2 else g_48_73 0 S2) else if l1 = 21 then (if (lg_cmp x1 0) = 0 then g_48_94 1 S2 else g_48_94 0 S2) else if l1 = 22 then (az_bV (g_49 x1 l2 S2) fun S5 => some (.inl none, S5)) else az_bV (g_50 l1 x1 l2 S2) fun S6 => some (.inl none, S6)
theorem t_48 {X : amX} {d e : Nat} {R : amS} {u : Nat → Int64} (hd : 3 ≤ d)  (l1 : Int32) (l2 : Int32) (S : amS) : AW X d am_m48 (wc R u) e 0 [(0, .ref 24), (1, .int l1), (2, .int l2)] [] S (g_48 l1 l2 S) := by
  unfold g_48
  refine aw_aload at_48_0 rfl ?_
  refine aw_cJ at_48_1 rfl (c_38 (by omega) _) (fun _ h => by cases h) rfl (fun x1 S2 => ?_)
  refine aw_lstore at_48_4 (by decide) rfl rfl ?_
  refine aw_iload at_48_5 rfl ?_
  refine aw_case 19 ?_ (fun h119 => ?_)
  · refine aw_tin 36 at_48_6 (by decide) ?_
    refine aw_aload at_48_36 rfl ?_
    refine aw_lload at_48_37 rfl ?_
    refine aw_cI at_48_38 rfl (c_112 (by omega) _ _) (fun _ h => by cases h) rfl (fun x3 S4 => ?_)
    refine aw_ic 2 at_48_41 ic_2 ?_
    refine aw_icmp_ne at_48_42 ?_ ?_
    · refine aw_ic 0 at_48_49 ic_0 ?_
      exact aw_sub (al_nil) (t_48_50 (by omega) 0 S4)
    · refine aw_ic 1 at_48_45 ic_1 ?_
      refine aw_goto at_48_46 ?_
      exact aw_sub (al_nil) (t_48_50 (by omega) 1 S4)
  refine aw_case 20 ?_ (fun h120 => ?_)
  · refine aw_tin 59 at_48_6 (by decide) ?_
    refine aw_aload at_48_59 rfl ?_
    refine aw_lload at_48_60 rfl ?_
    refine aw_lc 4294967296 at_48_61 (by decide) ?_
    refine aw_lcmp at_48_64 ?_
    refine aw_if_ne at_48_65 ?_ ?_
    · refine aw_ic 0 at_48_72 ic_0 ?_
      exact aw_sub (al_nil) (t_48_73 (by omega) 0 S2)
    · refine aw_ic 1 at_48_68 ic_1 ?_
      refine aw_goto at_48_69 ?_
      exact aw_sub (al_nil) (t_48_73 (by omega) 1 S2)
  refine aw_case 21 ?_ (fun h121 => ?_)
  · refine aw_tin 82 at_48_6 (by decide) ?_
    refine aw_aload at_48_82 rfl ?_
    refine aw_lload at_48_83 rfl ?_
    refine aw_lc 0 at_48_84 (by decide) ?_
    refine aw_lcmp at_48_85 ?_
    refine aw_if_ne at_48_86 ?_ ?_
    · refine aw_ic 0 at_48_93 ic_0 ?_
      exact aw_sub (al_nil) (t_48_94 (by omega) 0 S2)
    · refine aw_ic 1 at_48_89 ic_1 ?_
      refine aw_goto at_48_90 ?_
      exact aw_sub (al_nil) (t_48_94 (by omega) 1 S2)
  refine aw_case 22 ?_ (fun h122 => ?_)
  · refine aw_tin 103 at_48_6 (by decide) ?_
    refine aw_aload at_48_103 rfl ?_
    refine aw_lload at_48_104 rfl ?_
    refine aw_iload at_48_105 rfl ?_
    refine aw_cV at_48_106 rfl (c_49 (by omega) _ _ _) (fun _ h => by cases h) rfl (fun S5 => ?_)
    refine aw_goto at_48_109 ?_
    exact aw_rV at_48_119 rfl
  have h119 := az_ne 19 (n := 19) (by decide) h119
  have h120 := az_ne 20 (n := 20) (by decide) h120
  have h121 := az_ne 21 (n := 21) (by decide) h121
  have h122 := az_ne 22 (n := 22) (by decide) h122
  refine aw_tout at_48_6 (by omega) ?_
  refine aw_aload at_48_112 rfl ?_
  refine aw_iload at_48_113 rfl ?_
  refine aw_lload at_48_114 rfl ?_
  refine aw_iload at_48_115 rfl ?_
  refine aw_cV at_48_116 rfl (c_50 (by omega) _ _ _ _) (fun _ h => by cases h) rfl (fun S6 => ?_)
  exact aw_rV at_48_119 rfl
theorem c_48 {X : amX} {d : Nat} {R : amS} {u : Nat → Int64} (hd : 4 ≤ d) (l1 : Int32) (l2 : Int32) (S : amS) : CW X d 48 [.ref 24, .int l1, .int l2] (wc R u) S (g_48 l1 l2 S) := cw_up (by omega) (fun d' h => by
  subst h
  exact cw_of rfl (by decide) (Nat.le_of_ble_eq_true rfl) rfl (fun e => t_48 (by omega) l1 l2 S))
/-! 52: ListDesk$Machine.reckon(III)I -/
theorem at_52_0 : am_at am_m52 0 = some (.iload 0, 1, 0) := rfl
theorem at_52_1 : am_at am_m52 1 = some (.tableswitch 55 25 28 #[32, 36, 40, 44], 31, 0) := rfl
theorem at_52_32 : am_at am_m52 32 = some (.iload 1, 1, 0) := rfl
theorem at_52_33 : am_at am_m52 33 = some (.iload 2, 1, 0) := rfl
theorem at_52_34 : am_at am_m52 34 = some (.iadd, 1, 0) := rfl
theorem at_52_35 : am_at am_m52 35 = some (.ireturn, 1, 0) := rfl
theorem at_52_36 : am_at am_m52 36 = some (.iload 1, 1, 0) := rfl
theorem at_52_37 : am_at am_m52 37 = some (.iload 2, 1, 0) := rfl
theorem at_52_38 : am_at am_m52 38 = some (.isub, 1, 0) := rfl
theorem at_52_39 : am_at am_m52 39 = some (.ireturn, 1, 0) := rfl
theorem at_52_40 : am_at am_m52 40 = some (.iload 1, 1, 0) := rfl
theorem at_52_41 : am_at am_m52 41 = some (.iload 2, 1, 0) := rfl
theorem at_52_42 : am_at am_m52 42 = some (.imul, 1, 0) := rfl
theorem at_52_43 : am_at am_m52 43 = some (.ireturn, 1, 0) := rfl
theorem at_52_44 : am_at am_m52 44 = some (.iload 1, 1, 0) := rfl
theorem at_52_45 : am_at am_m52 45 = some (.iload 2, 1, 0) := rfl
theorem at_52_46 : am_at am_m52 46 = some (.if_icmp .ge 53, 3, 0) := rfl
theorem at_52_49 : am_at am_m52 49 = some (.iconst 1, 1, 0) := rfl
theorem at_52_50 : am_at am_m52 50 = some (.goto 54, 3, 0) := rfl
theorem at_52_53 : am_at am_m52 53 = some (.iconst 0, 1, 0) := rfl
theorem at_52_54 : am_at am_m52 54 = some (.ireturn, 1, 0) := rfl
theorem at_52_55 : am_at am_m52 55 = some (.iload 1, 1, 0) := rfl
theorem at_52_56 : am_at am_m52 56 = some (.iload 2, 1, 0) := rfl
theorem at_52_57 : am_at am_m52 57 = some (.if_icmp .ne 64, 3, 0) := rfl
theorem at_52_60 : am_at am_m52 60 = some (.iconst 1, 1, 0) := rfl
theorem at_52_61 : am_at am_m52 61 = some (.goto 65, 3, 0) := rfl
theorem at_52_64 : am_at am_m52 64 = some (.iconst 0, 1, 0) := rfl
theorem at_52_65 : am_at am_m52 65 = some (.ireturn, 1, 0) := rfl
def g_52 (l0 : Int32) (l1 : Int32) (l2 : Int32) (S : amS) : amQ := if l0 = 25 then (some (.inl (some (.int (l1 + l2))), S)) else if l0 = 26 then (some (.inl (some (.int (l1 - l2))), S)) else if l0 = 27 then (some (.inl (some (.int (l1 * l2))), S)) else if l0 = 28 then (if l2 ≤ l1 then some (.inl (some (.int 0)), S) else some (.inl (some (.int 1)), S)) else if l1 = l2 then some (.inl (some (.int 1)), S) else some (.inl (some (.int 0)), S)
theorem t_52 {X : amX} {d e : Nat} {R : amS} {u : Nat → Int64} (hd : 0 ≤ d)  (l0 : Int32) (l1 : Int32) (l2 : Int32) (S : amS) : AW X d am_m52 (wc R u) e 0 [(0, .int l0), (1, .int l1), (2, .int l2)] [] S (g_52 l0 l1 l2 S) := by
  unfold g_52
  refine aw_iload at_52_0 rfl ?_
  refine aw_case 25 ?_ (fun h125 => ?_)
  · refine aw_tin 32 at_52_1 (by decide) ?_
    refine aw_iload at_52_32 rfl ?_
    refine aw_iload at_52_33 rfl ?_
    refine aw_iadd at_52_34 ?_
    exact aw_rI at_52_35 rfl
  refine aw_case 26 ?_ (fun h126 => ?_)
  · refine aw_tin 36 at_52_1 (by decide) ?_
    refine aw_iload at_52_36 rfl ?_
    refine aw_iload at_52_37 rfl ?_
    refine aw_isub at_52_38 ?_
    exact aw_rI at_52_39 rfl
  refine aw_case 27 ?_ (fun h127 => ?_)
  · refine aw_tin 40 at_52_1 (by decide) ?_
    refine aw_iload at_52_40 rfl ?_
    refine aw_iload at_52_41 rfl ?_
    refine aw_imul at_52_42 ?_
    exact aw_rI at_52_43 rfl
  refine aw_case 28 ?_ (fun h128 => ?_)
  · refine aw_tin 44 at_52_1 (by decide) ?_
    refine aw_iload at_52_44 rfl ?_
    refine aw_iload at_52_45 rfl ?_
    refine aw_icmp_ge at_52_46 ?_ ?_
    · refine aw_ic 0 at_52_53 ic_0 ?_
      exact aw_rI at_52_54 rfl
    · refine aw_ic 1 at_52_49 ic_1 ?_
      refine aw_goto at_52_50 ?_
      exact aw_rI at_52_54 rfl
  have h125 := az_ne 25 (n := 25) (by decide) h125
  have h126 := az_ne 26 (n := 26) (by decide) h126
  have h127 := az_ne 27 (n := 27) (by decide) h127
  have h128 := az_ne 28 (n := 28) (by decide) h128
  refine aw_tout at_52_1 (by omega) ?_
  refine aw_iload at_52_55 rfl ?_
  refine aw_iload at_52_56 rfl ?_
  refine aw_icmp_ne at_52_57 ?_ ?_
  · refine aw_ic 0 at_52_64 ic_0 ?_
    exact aw_rI at_52_65 rfl
  · refine aw_ic 1 at_52_60 ic_1 ?_
    refine aw_goto at_52_61 ?_
    exact aw_rI at_52_65 rfl
theorem c_52 {X : amX} {d : Nat} {R : amS} {u : Nat → Int64} (hd : 1 ≤ d) (l0 : Int32) (l1 : Int32) (l2 : Int32) (S : amS) : CW X d 52 [.int l0, .int l1, .int l2] (wc R u) S (g_52 l0 l1 l2 S) := cw_up (by omega) (fun d' h => by
  subst h
  exact cw_of rfl (by decide) (Nat.le_of_ble_eq_true rfl) rfl (fun e => t_52 (by omega) l0 l1 l2 S))
/-! 51: ListDesk$Machine.primitiveOfTwo(II)V -/
theorem at_51_0 : am_at am_m51 0 = some (.aload 0, 1, 0) := rfl
theorem at_51_1 : am_at am_m51 1 = some (.invokevirtual 38, 3, 138) := rfl
theorem at_51_4 : am_at am_m51 4 = some (.lstore 3, 1, 0) := rfl
theorem at_51_5 : am_at am_m51 5 = some (.aload 0, 1, 0) := rfl
theorem at_51_6 : am_at am_m51 6 = some (.invokevirtual 38, 3, 138) := rfl
theorem at_51_9 : am_at am_m51 9 = some (.lstore 5, 2, 0) := rfl
theorem at_51_11 : am_at am_m51 11 = some (.iload 1, 1, 0) := rfl
theorem at_51_12 : am_at am_m51 12 = some (.iconst 23, 2, 1) := rfl
theorem at_51_14 : am_at am_m51 14 = some (.if_icmp .ne 39, 3, 0) := rfl
theorem at_51_17 : am_at am_m51 17 = some (.aload 0, 1, 0) := rfl
theorem at_51_18 : am_at am_m51 18 = some (.lload 5, 2, 0) := rfl
theorem at_51_20 : am_at am_m51 20 = some (.lload 3, 1, 0) := rfl
theorem at_51_21 : am_at am_m51 21 = some (.lcmp, 1, 0) := rfl
theorem at_51_22 : am_at am_m51 22 = some (.ifCond .ne 29, 3, 0) := rfl
theorem at_51_25 : am_at am_m51 25 = some (.iconst 1, 1, 0) := rfl
theorem at_51_26 : am_at am_m51 26 = some (.goto 30, 3, 0) := rfl
theorem at_51_29 : am_at am_m51 29 = some (.iconst 0, 1, 0) := rfl
theorem at_51_30 : am_at am_m51 30 = some (.invokestatic 114, 3, 230) := rfl
theorem at_51_33 : am_at am_m51 33 = some (.invokevirtual 37, 3, 113) := rfl
theorem at_51_36 : am_at am_m51 36 = some (.goto 109, 3, 0) := rfl
theorem at_51_39 : am_at am_m51 39 = some (.iload 1, 1, 0) := rfl
theorem at_51_40 : am_at am_m51 40 = some (.iconst 24, 2, 1) := rfl
theorem at_51_42 : am_at am_m51 42 = some (.if_icmp .ne 64, 3, 0) := rfl
theorem at_51_45 : am_at am_m51 45 = some (.aload 0, 1, 0) := rfl
theorem at_51_46 : am_at am_m51 46 = some (.aload 0, 1, 0) := rfl
theorem at_51_47 : am_at am_m51 47 = some (.getfield 303, 3, 26) := rfl
theorem at_51_50 : am_at am_m51 50 = some (.iconst 2, 1, 0) := rfl
theorem at_51_51 : am_at am_m51 51 = some (.lload 5, 2, 0) := rfl
theorem at_51_53 : am_at am_m51 53 = some (.lload 3, 1, 0) := rfl
theorem at_51_54 : am_at am_m51 54 = some (.invokevirtual 21, 3, 130) := rfl
theorem at_51_57 : am_at am_m51 57 = some (.iload 2, 1, 0) := rfl
theorem at_51_58 : am_at am_m51 58 = some (.invokevirtual 40, 3, 134) := rfl
theorem at_51_61 : am_at am_m51 61 = some (.goto 109, 3, 0) := rfl
theorem at_51_64 : am_at am_m51 64 = some (.lload 5, 2, 0) := rfl
theorem at_51_66 : am_at am_m51 66 = some (.invokestatic 112, 3, 209) := rfl
theorem at_51_69 : am_at am_m51 69 = some (.ifCond .ne 79, 3, 0) := rfl
theorem at_51_72 : am_at am_m51 72 = some (.lload 3, 1, 0) := rfl
theorem at_51_73 : am_at am_m51 73 = some (.invokestatic 112, 3, 209) := rfl
theorem at_51_76 : am_at am_m51 76 = some (.ifCond .eq 88, 3, 0) := rfl
theorem at_51_79 : am_at am_m51 79 = some (.aload 0, 1, 0) := rfl
theorem at_51_80 : am_at am_m51 80 = some (.iconst 3, 1, 0) := rfl
theorem at_51_81 : am_at am_m51 81 = some (.iload 2, 1, 0) := rfl
theorem at_51_82 : am_at am_m51 82 = some (.invokevirtual 35, 3, 172) := rfl
theorem at_51_85 : am_at am_m51 85 = some (.goto 109, 3, 0) := rfl
theorem at_51_88 : am_at am_m51 88 = some (.aload 0, 1, 0) := rfl
theorem at_51_89 : am_at am_m51 89 = some (.iconst 0, 1, 0) := rfl
theorem at_51_90 : am_at am_m51 90 = some (.iload 1, 1, 0) := rfl
theorem at_51_91 : am_at am_m51 91 = some (.lload 5, 2, 0) := rfl
theorem at_51_93 : am_at am_m51 93 = some (.invokestatic 113, 3, 241) := rfl
theorem at_51_96 : am_at am_m51 96 = some (.lload 3, 1, 0) := rfl
theorem at_51_97 : am_at am_m51 97 = some (.invokestatic 113, 3, 241) := rfl
theorem at_51_100 : am_at am_m51 100 = some (.invokestatic 52, 3, 253) := rfl
theorem at_51_103 : am_at am_m51 103 = some (.invokestatic 111, 3, 109) := rfl
theorem at_51_106 : am_at am_m51 106 = some (.invokevirtual 37, 3, 113) := rfl
theorem at_51_109 : am_at am_m51 109 = some (.return_, 1, 0) := rfl
def g_51_79 (l2 : Int32) (S : amS) : amQ := az_bV (g_35 3 l2 S) fun S1 => some (.inl none, S1)
theorem t_51_79 {X : amX} {d e : Nat} {R : amS} {u : Nat → Int64} (hd : 3 ≤ d)  (l2 : Int32) (S : amS) : AW X d am_m51 (wc R u) e 79 [(0, .ref 24), (2, .int l2)] [] S (g_51_79 l2 S) := by
  unfold g_51_79
  refine aw_aload at_51_79 rfl ?_
  refine aw_ic 3 at_51_80 ic_3 ?_
  refine aw_iload at_51_81 rfl ?_
  refine aw_cV at_51_82 rfl (c_35 (by omega) _ _ _) (fun _ h => by cases h) rfl (fun S1 => ?_)
  refine aw_goto at_51_85 ?_
  exact aw_rV at_51_109 rfl
def g_51_30 (s1 : Int32) (S : amS) : amQ := az_bJ (g_114 s1 S) fun x1 S2 => az_bV (g_37 x1 S2) fun S3 => some (.inl none, S3)
theorem t_51_30 {X : amX} {d e : Nat} {R : amS} {u : Nat → Int64} (hd : 3 ≤ d)  (s1 : Int32) (S : amS) : AW X d am_m51 (wc R u) e 30 [] [.int s1, .ref 24] S (g_51_30 s1 S) := by
  unfold g_51_30
  refine aw_cJ at_51_30 rfl (c_114 (by omega) _ _) (fun _ h => by cases h) rfl (fun x1 S2 => ?_)
  refine aw_cV at_51_33 rfl (c_37 (by omega) _ _) (fun _ h => by cases h) rfl (fun S3 => ?_)
  refine aw_goto at_51_36 ?_
  exact aw_rV at_51_109 rfl
def g_51 (l1 : Int32) (l2 : Int32) (S : amS) : amQ := az_bJ (g_38 S) fun x1 S2 => az_bJ (g_38 S2) fun x3 S4 => if l1 = 23 then if (lg_cmp x3 x1) = 0 then g_51_30 1 S4 else g_51_30 0 S4 else if l1 = 24 then az_bJ (g_21 2 x3 x1 S4) fun x18 S19 => az_bV (g_40 x18 l2 S19) fun S20 => some (.inl none, S20) else az_bI (g_112 x3 S4) fun x5 S6 => if x5 = 0 then az_bI (g_112 x1 S6) fun x7 S8 => if x7 = 0 then az_bI (g_113 x3 S8) fun x9 S10 => az_bI (g_113 x1 S10) fun x11 S12 => az_bI (g_52 l1 x9 x11 S12) fun x13 S14 => az_bJ (g_111 0 x13 S14) fun x15 S16 => az_bV (g_37 x15 S16) fun S17 => some (.inl none, S17) else g_51_79 l2 S8 else g_51_79 l2 S6
theorem t_51 {X : amX} {d e : Nat} {R : amS} {u : Nat → Int64} (hd : 3 ≤ d)  (l1 : Int32) (l2 : Int32) (S : amS) : AW X d am_m51 (wc R u) e 0 [(0, .ref 24), (1, .int l1), (2, .int l2)] [] S (g_51 l1 l2 S) := by
  unfold g_51
  refine aw_aload at_51_0 rfl ?_
  refine aw_cJ at_51_1 rfl (c_38 (by omega) _) (fun _ h => by cases h) rfl (fun x1 S2 => ?_)
  refine aw_lstore at_51_4 (by decide) rfl rfl ?_
  refine aw_aload at_51_5 rfl ?_
  refine aw_cJ at_51_6 rfl (c_38 (by omega) _) (fun _ h => by cases h) rfl (fun x3 S4 => ?_)
  refine aw_lstore at_51_9 (by decide) rfl rfl ?_
  refine aw_iload at_51_11 rfl ?_
  refine aw_ic 23 at_51_12 ic_23 ?_
  refine aw_icmp_ne at_51_14 ?_ ?_
  · refine aw_iload at_51_39 rfl ?_
    refine aw_ic 24 at_51_40 ic_24 ?_
    refine aw_icmp_ne at_51_42 ?_ ?_
    · refine aw_lload at_51_64 rfl ?_
      refine aw_cI at_51_66 rfl (c_112 (by omega) _ _) (fun _ h => by cases h) rfl (fun x5 S6 => ?_)
      refine aw_if_ne at_51_69 ?_ ?_
      · exact aw_sub (al_cons rfl (al_cons rfl al_nil)) (t_51_79 (by omega) l2 S6)
      · refine aw_lload at_51_72 rfl ?_
        refine aw_cI at_51_73 rfl (c_112 (by omega) _ _) (fun _ h => by cases h) rfl (fun x7 S8 => ?_)
        refine aw_if_eq at_51_76 ?_ ?_
        · refine aw_aload at_51_88 rfl ?_
          refine aw_ic 0 at_51_89 ic_0 ?_
          refine aw_iload at_51_90 rfl ?_
          refine aw_lload at_51_91 rfl ?_
          refine aw_cI at_51_93 rfl (c_113 (by omega) _ _) (fun _ h => by cases h) rfl (fun x9 S10 => ?_)
          refine aw_lload at_51_96 rfl ?_
          refine aw_cI at_51_97 rfl (c_113 (by omega) _ _) (fun _ h => by cases h) rfl (fun x11 S12 => ?_)
          refine aw_cI at_51_100 rfl (c_52 (by omega) _ _ _ _) (fun _ h => by cases h) rfl (fun x13 S14 => ?_)
          refine aw_cJ at_51_103 rfl (c_111 (by omega) _ _ _) (fun _ h => by cases h) rfl (fun x15 S16 => ?_)
          refine aw_cV at_51_106 rfl (c_37 (by omega) _ _) (fun _ h => by cases h) rfl (fun S17 => ?_)
          exact aw_rV at_51_109 rfl
        · exact aw_sub (al_cons rfl (al_cons rfl al_nil)) (t_51_79 (by omega) l2 S8)
    · refine aw_aload at_51_45 rfl ?_
      refine aw_aload at_51_46 rfl ?_
      refine aw_getf at_51_47 gf_303 ?_
      refine aw_ic 2 at_51_50 ic_2 ?_
      refine aw_lload at_51_51 rfl ?_
      refine aw_lload at_51_53 rfl ?_
      refine aw_cJ at_51_54 rfl (c_21 (by omega) _ _ _ _) (fun _ h => by cases h) rfl (fun x18 S19 => ?_)
      refine aw_iload at_51_57 rfl ?_
      refine aw_cV at_51_58 rfl (c_40 (by omega) _ _ _) (fun _ h => by cases h) rfl (fun S20 => ?_)
      refine aw_goto at_51_61 ?_
      exact aw_rV at_51_109 rfl
  · refine aw_aload at_51_17 rfl ?_
    refine aw_lload at_51_18 rfl ?_
    refine aw_lload at_51_20 rfl ?_
    refine aw_lcmp at_51_21 ?_
    refine aw_if_ne at_51_22 ?_ ?_
    · refine aw_ic 0 at_51_29 ic_0 ?_
      exact aw_sub (al_nil) (t_51_30 (by omega) 0 S4)
    · refine aw_ic 1 at_51_25 ic_1 ?_
      refine aw_goto at_51_26 ?_
      exact aw_sub (al_nil) (t_51_30 (by omega) 1 S4)
theorem c_51 {X : amX} {d : Nat} {R : amS} {u : Nat → Int64} (hd : 4 ≤ d) (l1 : Int32) (l2 : Int32) (S : amS) : CW X d 51 [.ref 24, .int l1, .int l2] (wc R u) S (g_51 l1 l2 S) := cw_up (by omega) (fun d' h => by
  subst h
  exact cw_of rfl (by decide) (Nat.le_of_ble_eq_true rfl) rfl (fun e => t_51 (by omega) l1 l2 S))
/-! 32: ListDesk$Machine.goOn(I)I -/
theorem at_32_0 : am_at am_m32 0 = some (.iload 1, 1, 0) := rfl
theorem at_32_1 : am_at am_m32 1 = some (.istore 2, 1, 0) := rfl
theorem at_32_2 : am_at am_m32 2 = some (.iconst 0, 1, 0) := rfl
theorem at_32_3 : am_at am_m32 3 = some (.istore 3, 1, 0) := rfl
theorem at_32_4 : am_at am_m32 4 = some (.iload 3, 1, 0) := rfl
theorem at_32_5 : am_at am_m32 5 = some (.iconst 1000000, 2, 84) := rfl
theorem at_32_7 : am_at am_m32 7 = some (.if_icmp .ge 174, 3, 0) := rfl
theorem at_32_10 : am_at am_m32 10 = some (.aload 0, 1, 0) := rfl
theorem at_32_11 : am_at am_m32 11 = some (.getfield 313, 3, 48) := rfl
theorem at_32_14 : am_at am_m32 14 = some (.iconst 2, 1, 0) := rfl
theorem at_32_15 : am_at am_m32 15 = some (.if_icmp .ne 174, 3, 0) := rfl
theorem at_32_18 : am_at am_m32 18 = some (.aload 0, 1, 0) := rfl
theorem at_32_19 : am_at am_m32 19 = some (.getfield 300, 3, 9) := rfl
theorem at_32_22 : am_at am_m32 22 = some (.aload 0, 1, 0) := rfl
theorem at_32_23 : am_at am_m32 23 = some (.getfield 310, 3, 65) := rfl
theorem at_32_26 : am_at am_m32 26 = some (.invokevirtual 4, 3, 75) := rfl
theorem at_32_29 : am_at am_m32 29 = some (.istore 4, 2, 0) := rfl
theorem at_32_31 : am_at am_m32 31 = some (.iload 4, 2, 0) := rfl
theorem at_32_33 : am_at am_m32 33 = some (.iconst 6, 2, 1) := rfl
theorem at_32_35 : am_at am_m32 35 = some (.if_icmp .gt 60, 3, 0) := rfl
theorem at_32_38 : am_at am_m32 38 = some (.iload 2, 1, 0) := rfl
theorem at_32_39 : am_at am_m32 39 = some (.ifCond .ne 47, 3, 0) := rfl
theorem at_32_42 : am_at am_m32 42 = some (.aload 0, 1, 0) := rfl
theorem at_32_43 : am_at am_m32 43 = some (.getfield 313, 3, 48) := rfl
theorem at_32_46 : am_at am_m32 46 = some (.ireturn, 1, 0) := rfl
theorem at_32_47 : am_at am_m32 47 = some (.iinc 2 (-1), 3, 0) := rfl
theorem at_32_50 : am_at am_m32 50 = some (.aload 0, 1, 0) := rfl
theorem at_32_51 : am_at am_m32 51 = some (.dup, 1, 0) := rfl
theorem at_32_52 : am_at am_m32 52 = some (.getfield 312, 3, 71) := rfl
theorem at_32_55 : am_at am_m32 55 = some (.iconst 1, 1, 0) := rfl
theorem at_32_56 : am_at am_m32 56 = some (.iadd, 1, 0) := rfl
theorem at_32_57 : am_at am_m32 57 = some (.putfield 312, 3, 71) := rfl
theorem at_32_60 : am_at am_m32 60 = some (.aload 0, 1, 0) := rfl
theorem at_32_61 : am_at am_m32 61 = some (.getfield 300, 3, 9) := rfl
theorem at_32_64 : am_at am_m32 64 = some (.getfield 10001, 3, 81) := rfl
theorem at_32_67 : am_at am_m32 67 = some (.aload 0, 1, 0) := rfl
theorem at_32_68 : am_at am_m32 68 = some (.getfield 310, 3, 65) := rfl
theorem at_32_71 : am_at am_m32 71 = some (.invokestatic 94, 3, 84) := rfl
theorem at_32_74 : am_at am_m32 74 = some (.istore 5, 2, 0) := rfl
theorem at_32_76 : am_at am_m32 76 = some (.aload 0, 1, 0) := rfl
theorem at_32_77 : am_at am_m32 77 = some (.getfield 300, 3, 9) := rfl
theorem at_32_80 : am_at am_m32 80 = some (.getfield 10002, 3, 90) := rfl
theorem at_32_83 : am_at am_m32 83 = some (.aload 0, 1, 0) := rfl
theorem at_32_84 : am_at am_m32 84 = some (.getfield 310, 3, 65) := rfl
theorem at_32_87 : am_at am_m32 87 = some (.invokestatic 94, 3, 84) := rfl
theorem at_32_90 : am_at am_m32 90 = some (.istore 6, 2, 0) := rfl
theorem at_32_92 : am_at am_m32 92 = some (.aload 0, 1, 0) := rfl
theorem at_32_93 : am_at am_m32 93 = some (.dup, 1, 0) := rfl
theorem at_32_94 : am_at am_m32 94 = some (.getfield 310, 3, 65) := rfl
theorem at_32_97 : am_at am_m32 97 = some (.iconst 1, 1, 0) := rfl
theorem at_32_98 : am_at am_m32 98 = some (.iadd, 1, 0) := rfl
theorem at_32_99 : am_at am_m32 99 = some (.putfield 310, 3, 65) := rfl
theorem at_32_102 : am_at am_m32 102 = some (.iload 4, 2, 0) := rfl
theorem at_32_104 : am_at am_m32 104 = some (.iconst 6, 2, 1) := rfl
theorem at_32_106 : am_at am_m32 106 = some (.if_icmp .gt 122, 3, 0) := rfl
theorem at_32_109 : am_at am_m32 109 = some (.aload 0, 1, 0) := rfl
theorem at_32_110 : am_at am_m32 110 = some (.iload 4, 2, 0) := rfl
theorem at_32_112 : am_at am_m32 112 = some (.iload 5, 2, 0) := rfl
theorem at_32_114 : am_at am_m32 114 = some (.iload 6, 2, 0) := rfl
theorem at_32_116 : am_at am_m32 116 = some (.invokevirtual 33, 3, 93) := rfl
theorem at_32_119 : am_at am_m32 119 = some (.goto 168, 3, 0) := rfl
theorem at_32_122 : am_at am_m32 122 = some (.iload 4, 2, 0) := rfl
theorem at_32_124 : am_at am_m32 124 = some (.iconst 16, 2, 1) := rfl
theorem at_32_126 : am_at am_m32 126 = some (.if_icmp .gt 142, 3, 0) := rfl
theorem at_32_129 : am_at am_m32 129 = some (.aload 0, 1, 0) := rfl
theorem at_32_130 : am_at am_m32 130 = some (.iload 4, 2, 0) := rfl
theorem at_32_132 : am_at am_m32 132 = some (.iload 5, 2, 0) := rfl
theorem at_32_134 : am_at am_m32 134 = some (.iload 6, 2, 0) := rfl
theorem at_32_136 : am_at am_m32 136 = some (.invokevirtual 34, 3, 97) := rfl
theorem at_32_139 : am_at am_m32 139 = some (.goto 168, 3, 0) := rfl
theorem at_32_142 : am_at am_m32 142 = some (.iload 4, 2, 0) := rfl
theorem at_32_144 : am_at am_m32 144 = some (.iconst 22, 2, 1) := rfl
theorem at_32_146 : am_at am_m32 146 = some (.if_icmp .gt 160, 3, 0) := rfl
theorem at_32_149 : am_at am_m32 149 = some (.aload 0, 1, 0) := rfl
theorem at_32_150 : am_at am_m32 150 = some (.iload 4, 2, 0) := rfl
theorem at_32_152 : am_at am_m32 152 = some (.iload 6, 2, 0) := rfl
theorem at_32_154 : am_at am_m32 154 = some (.invokevirtual 48, 3, 100) := rfl
theorem at_32_157 : am_at am_m32 157 = some (.goto 168, 3, 0) := rfl
theorem at_32_160 : am_at am_m32 160 = some (.aload 0, 1, 0) := rfl
theorem at_32_161 : am_at am_m32 161 = some (.iload 4, 2, 0) := rfl
theorem at_32_163 : am_at am_m32 163 = some (.iload 6, 2, 0) := rfl
theorem at_32_165 : am_at am_m32 165 = some (.invokevirtual 51, 3, 104) := rfl
theorem at_32_168 : am_at am_m32 168 = some (.iinc 3 1, 3, 0) := rfl
theorem at_32_171 : am_at am_m32 171 = some (.goto 4, 3, 0) := rfl
theorem at_32_174 : am_at am_m32 174 = some (.aload 0, 1, 0) := rfl
theorem at_32_175 : am_at am_m32 175 = some (.getfield 313, 3, 48) := rfl
theorem at_32_178 : am_at am_m32 178 = some (.ireturn, 1, 0) := rfl
def g_32_174 (n : Nat) (S : amS) : amQ := some (.inl (some (.int (S.1 24 13))), S)
theorem t_32_174 {X : amX} {d e : Nat} {R : amS} {u : Nat → Int64} (hd : 5 ≤ d) (n : Nat)  (S : amS) : AW X d am_m32 (wc R u) e 174 [(0, .ref 24)] [] S (g_32_174 n S) := by
  unfold g_32_174
  refine aw_aload at_32_174 rfl ?_
  refine aw_getf at_32_175 gf_313 ?_
  exact aw_rI at_32_178 rfl
def g_32_168 (n : Nat) (H4 : Int32 → Int32 → amS → amQ) (l2 : Int32) (l3 : Int32) (S : amS) : amQ := H4 l2 (l3 + 1) S
theorem t_32_168 {X : amX} {d e : Nat} {R : amS} {u : Nat → Int64} {H4 : Int32 → Int32 → amS → amQ} (hd : 5 ≤ d) (n : Nat) (hH4 : ∀ (l2 : Int32) (l3 : Int32) (S : amS), AW X d am_m32 (wc R u) e 4 [(0, .ref 24), (2, .int l2), (3, .int l3)] [] S (H4 l2 l3 S)) (l2 : Int32) (l3 : Int32) (S : amS) : AW X d am_m32 (wc R u) e 168 [(0, .ref 24), (2, .int l2), (3, .int l3)] [] S (g_32_168 n H4 l2 l3 S) := by
  unfold g_32_168
  refine aw_iinc at_32_168 rfl (by decide) rfl ic_1 rfl ?_
  refine aw_goto at_32_171 ?_
  exact aw_sub (al_cons rfl (al_cons rfl (al_cons rfl al_nil))) (hH4 l2 (l3 + 1) S)
def g_32_60 (n : Nat) (H4 : Int32 → Int32 → amS → amQ) (l2 : Int32) (l3 : Int32) (l4 : Int32) (S : amS) : amQ := az_st (az_rg 502 (S.1 3) (S.1 24 10)) fun x1 => az_st (az_rg 502 (S.1 4) (S.1 24 10)) fun x2 => az_st (sI S 24 10 ((S.1 24 10) + 1)) fun S3 => if 6 < l4 then if 16 < l4 then if 22 < l4 then az_bV (g_51 l4 x2 S3) fun S4 => g_32_168 n H4 l2 l3 S4 else az_bV (g_48 l4 x2 S3) fun S5 => g_32_168 n H4 l2 l3 S5 else az_bV (g_34 n l4 x1 x2 S3) fun S6 => g_32_168 n H4 l2 l3 S6 else az_bV (g_33 n l4 x1 x2 S3) fun S7 => g_32_168 n H4 l2 l3 S7
theorem t_32_60 {X : amX} {d e : Nat} {R : amS} {u : Nat → Int64} {H4 : Int32 → Int32 → amS → amQ} (hd : 5 ≤ d) (n : Nat) (hH4 : ∀ (l2 : Int32) (l3 : Int32) (S : amS), AW X d am_m32 (wc R u) e 4 [(0, .ref 24), (2, .int l2), (3, .int l3)] [] S (H4 l2 l3 S)) (l2 : Int32) (l3 : Int32) (l4 : Int32) (S : amS) : AW X d am_m32 (wc R u) e 60 [(0, .ref 24), (2, .int l2), (3, .int l3), (4, .int l4)] [] S (g_32_60 n H4 l2 l3 l4 S) := by
  unfold g_32_60
  refine aw_aload at_32_60 rfl ?_
  refine aw_getf at_32_61 gf_300 ?_
  refine aw_getf at_32_64 gf_10001 ?_
  refine aw_aload at_32_67 rfl ?_
  refine aw_getf at_32_68 gf_310 ?_
  refine aw_pI at_32_71 rfl (cw_94 (by omega) (by decide) (fun e => ai_3) (fun e => al_3)) ?_
  refine aw_nameI (fun x1 => ?_)
  refine aw_istore at_32_74 (by decide) rfl rfl ?_
  refine aw_aload at_32_76 rfl ?_
  refine aw_getf at_32_77 gf_300 ?_
  refine aw_getf at_32_80 gf_10002 ?_
  refine aw_aload at_32_83 rfl ?_
  refine aw_getf at_32_84 gf_310 ?_
  refine aw_pI at_32_87 rfl (cw_94 (by omega) (by decide) (fun e => ai_4) (fun e => al_4)) ?_
  refine aw_nameI (fun x2 => ?_)
  refine aw_istore at_32_90 (by decide) rfl rfl ?_
  refine aw_aload at_32_92 rfl ?_
  refine aw_dupA at_32_93 ?_
  refine aw_getf at_32_94 gf_310 ?_
  refine aw_ic 1 at_32_97 ic_1 ?_
  refine aw_iadd at_32_98 ?_
  refine aw_putf at_32_99 (pf_310 _) (fun S3 => ?_)
  refine aw_iload at_32_102 rfl ?_
  refine aw_ic 6 at_32_104 ic_6 ?_
  refine aw_icmp_gt at_32_106 ?_ ?_
  · refine aw_iload at_32_122 rfl ?_
    refine aw_ic 16 at_32_124 ic_16 ?_
    refine aw_icmp_gt at_32_126 ?_ ?_
    · refine aw_iload at_32_142 rfl ?_
      refine aw_ic 22 at_32_144 ic_22 ?_
      refine aw_icmp_gt at_32_146 ?_ ?_
      · refine aw_aload at_32_160 rfl ?_
        refine aw_iload at_32_161 rfl ?_
        refine aw_iload at_32_163 rfl ?_
        refine aw_cV at_32_165 rfl (c_51 (by omega) _ _ _) (fun _ h => by cases h) rfl (fun S4 => ?_)
        exact aw_sub (al_cons rfl (al_cons rfl (al_cons rfl al_nil))) (t_32_168 (by omega) n hH4 l2 l3 S4)
      · refine aw_aload at_32_149 rfl ?_
        refine aw_iload at_32_150 rfl ?_
        refine aw_iload at_32_152 rfl ?_
        refine aw_cV at_32_154 rfl (c_48 (by omega) _ _ _) (fun _ h => by cases h) rfl (fun S5 => ?_)
        refine aw_goto at_32_157 ?_
        exact aw_sub (al_cons rfl (al_cons rfl (al_cons rfl al_nil))) (t_32_168 (by omega) n hH4 l2 l3 S5)
    · refine aw_aload at_32_129 rfl ?_
      refine aw_iload at_32_130 rfl ?_
      refine aw_iload at_32_132 rfl ?_
      refine aw_iload at_32_134 rfl ?_
      refine aw_cV at_32_136 rfl (c_34 (by omega) n _ _ _ _) (fun _ h => by cases h) rfl (fun S6 => ?_)
      refine aw_goto at_32_139 ?_
      exact aw_sub (al_cons rfl (al_cons rfl (al_cons rfl al_nil))) (t_32_168 (by omega) n hH4 l2 l3 S6)
  · refine aw_aload at_32_109 rfl ?_
    refine aw_iload at_32_110 rfl ?_
    refine aw_iload at_32_112 rfl ?_
    refine aw_iload at_32_114 rfl ?_
    refine aw_cV at_32_116 rfl (c_33 (by omega) n _ _ _ _) (fun _ h => by cases h) rfl (fun S7 => ?_)
    refine aw_goto at_32_119 ?_
    exact aw_sub (al_cons rfl (al_cons rfl (al_cons rfl al_nil))) (t_32_168 (by omega) n hH4 l2 l3 S7)
def h_32_4 (n : Nat) (H4 : Int32 → Int32 → amS → amQ) (l2 : Int32) (l3 : Int32) (S : amS) : amQ := if 1000000 ≤ l3 then g_32_174 n S else if (S.1 24 13) = 2 then az_bI (g_4 (S.1 24 10) S) fun x1 S2 => if 6 < x1 then g_32_60 n H4 l2 l3 x1 S2 else if l2 = 0 then some (.inl (some (.int (S2.1 24 13))), S2) else az_st (sI S2 24 12 ((S2.1 24 12) + 1)) fun S3 => g_32_60 n H4 (l2 + (-1)) l3 x1 S3 else g_32_174 n S
def g_32_4 : Nat → Int32 → Int32 → amS → amQ
  | 0 => fun _ _ _ => none
  | n + 1 => h_32_4 n (g_32_4 n)
theorem th_32_4 {X : amX} {d e : Nat} {R : amS} {u : Nat → Int64} {H4 : Int32 → Int32 → amS → amQ} (hd : 5 ≤ d) (n : Nat) (hH4 : ∀ (l2 : Int32) (l3 : Int32) (S : amS), AW X d am_m32 (wc R u) e 4 [(0, .ref 24), (2, .int l2), (3, .int l3)] [] S (H4 l2 l3 S)) (l2 : Int32) (l3 : Int32)  (S : amS) : AW X d am_m32 (wc R u) e 4 [(0, .ref 24), (2, .int l2), (3, .int l3)] [] S (h_32_4 n H4 l2 l3 S) := by
  unfold h_32_4
  refine aw_iload at_32_4 rfl ?_
  refine aw_ic 1000000 at_32_5 ic_1000000 ?_
  refine aw_icmp_ge at_32_7 ?_ ?_
  · exact aw_sub (al_cons rfl al_nil) (t_32_174 (by omega) n S)
  · refine aw_aload at_32_10 rfl ?_
    refine aw_getf at_32_11 gf_313 ?_
    refine aw_ic 2 at_32_14 ic_2 ?_
    refine aw_icmp_ne at_32_15 ?_ ?_
    · exact aw_sub (al_cons rfl al_nil) (t_32_174 (by omega) n S)
    · refine aw_aload at_32_18 rfl ?_
      refine aw_getf at_32_19 gf_300 ?_
      refine aw_aload at_32_22 rfl ?_
      refine aw_getf at_32_23 gf_310 ?_
      refine aw_cI at_32_26 rfl (c_4 (by omega) _ _) (fun _ h => by cases h) rfl (fun x1 S2 => ?_)
      refine aw_istore at_32_29 (by decide) rfl rfl ?_
      refine aw_iload at_32_31 rfl ?_
      refine aw_ic 6 at_32_33 ic_6 ?_
      refine aw_icmp_gt at_32_35 ?_ ?_
      · exact aw_sub (al_cons rfl (al_cons rfl (al_cons rfl (al_cons rfl al_nil)))) (t_32_60 (by omega) n hH4 l2 l3 x1 S2)
      · refine aw_iload at_32_38 rfl ?_
        refine aw_if_ne at_32_39 ?_ ?_
        · refine aw_iinc at_32_47 rfl (by decide) rfl ic_m1 rfl ?_
          refine aw_aload at_32_50 rfl ?_
          refine aw_dupA at_32_51 ?_
          refine aw_getf at_32_52 gf_312 ?_
          refine aw_ic 1 at_32_55 ic_1 ?_
          refine aw_iadd at_32_56 ?_
          refine aw_putf at_32_57 (pf_312 _) (fun S3 => ?_)
          exact aw_sub (al_cons rfl (al_cons rfl (al_cons rfl (al_cons rfl al_nil)))) (t_32_60 (by omega) n hH4 (l2 + (-1)) l3 x1 S3)
        · refine aw_aload at_32_42 rfl ?_
          refine aw_getf at_32_43 gf_313 ?_
          exact aw_rI at_32_46 rfl
theorem t_32_4 {X : amX} {d e : Nat} {R : amS} {u : Nat → Int64} (hd : 5 ≤ d) : ∀ (n : Nat)  (l2 : Int32) (l3 : Int32) (S : amS), AW X d am_m32 (wc R u) e 4 [(0, .ref 24), (2, .int l2), (3, .int l3)] [] S (g_32_4 n l2 l3 S)
  | 0, _, _, _ => aw_none
  | n + 1, l2, l3, S => th_32_4 hd n (t_32_4 hd n) l2 l3 S
def g_32 (n : Nat) (l1 : Int32) (S : amS) : amQ := g_32_4 n l1 0 S
theorem t_32 {X : amX} {d e : Nat} {R : amS} {u : Nat → Int64} (hd : 5 ≤ d) (n : Nat)  (l1 : Int32) (S : amS) : AW X d am_m32 (wc R u) e 0 [(0, .ref 24), (1, .int l1)] [] S (g_32 n l1 S) := by
  unfold g_32
  refine aw_iload at_32_0 rfl ?_
  refine aw_istore at_32_1 (by decide) rfl rfl ?_
  refine aw_ic 0 at_32_2 ic_0 ?_
  refine aw_istore at_32_3 (by decide) rfl rfl ?_
  exact aw_sub (al_cons rfl (al_cons rfl (al_cons rfl al_nil))) (t_32_4 (by omega) n l1 0 S)
theorem c_32 {X : amX} {d : Nat} {R : amS} {u : Nat → Int64} (hd : 6 ≤ d) (n : Nat) (l1 : Int32) (S : amS) : CW X d 32 [.ref 24, .int l1] (wc R u) S (g_32 n l1 S) := cw_up (by omega) (fun d' h => by
  subst h
  exact cw_of rfl (by decide) (Nat.le_of_ble_eq_true rfl) rfl (fun e => t_32 (by omega) n l1 S))
/-! 53: ListDesk$Machine.part(I)J -/
theorem at_53_0 : am_at am_m53 0 = some (.aload 0, 1, 0) := rfl
theorem at_53_1 : am_at am_m53 1 = some (.aload 0, 1, 0) := rfl
theorem at_53_2 : am_at am_m53 2 = some (.getfield 308, 3, 59) := rfl
theorem at_53_5 : am_at am_m53 5 = some (.iconst 1, 1, 0) := rfl
theorem at_53_6 : am_at am_m53 6 = some (.isub, 1, 0) := rfl
theorem at_53_7 : am_at am_m53 7 = some (.invokevirtual 36, 3, 145) := rfl
theorem at_53_10 : am_at am_m53 10 = some (.lstore 2, 1, 0) := rfl
theorem at_53_11 : am_at am_m53 11 = some (.iconst 30, 2, 1) := rfl
theorem at_53_13 : am_at am_m53 13 = some (.istore 4, 2, 0) := rfl
theorem at_53_15 : am_at am_m53 15 = some (.iload 4, 2, 0) := rfl
theorem at_53_17 : am_at am_m53 17 = some (.ifCond .le 33, 3, 0) := rfl
theorem at_53_20 : am_at am_m53 20 = some (.iload 1, 1, 0) := rfl
theorem at_53_21 : am_at am_m53 21 = some (.iload 4, 2, 0) := rfl
theorem at_53_23 : am_at am_m53 23 = some (.iushr, 1, 0) := rfl
theorem at_53_24 : am_at am_m53 24 = some (.ifCond .ne 33, 3, 0) := rfl
theorem at_53_27 : am_at am_m53 27 = some (.iinc 4 (-1), 3, 0) := rfl
theorem at_53_30 : am_at am_m53 30 = some (.goto 15, 3, 0) := rfl
theorem at_53_33 : am_at am_m53 33 = some (.iload 4, 2, 0) := rfl
theorem at_53_35 : am_at am_m53 35 = some (.iconst 1, 1, 0) := rfl
theorem at_53_36 : am_at am_m53 36 = some (.isub, 1, 0) := rfl
theorem at_53_37 : am_at am_m53 37 = some (.istore 5, 2, 0) := rfl
theorem at_53_39 : am_at am_m53 39 = some (.iload 5, 2, 0) := rfl
theorem at_53_41 : am_at am_m53 41 = some (.ifCond .lt 91, 3, 0) := rfl
theorem at_53_44 : am_at am_m53 44 = some (.lload 2, 1, 0) := rfl
theorem at_53_45 : am_at am_m53 45 = some (.invokestatic 112, 3, 209) := rfl
theorem at_53_48 : am_at am_m53 48 = some (.iconst 2, 1, 0) := rfl
theorem at_53_49 : am_at am_m53 49 = some (.if_icmp .eq 56, 3, 0) := rfl
theorem at_53_52 : am_at am_m53 52 = some (.jsr_w 21474836480, 3, 170) := rfl
theorem at_53_55 : am_at am_m53 55 = some (.lreturn, 1, 0) := rfl
theorem at_53_56 : am_at am_m53 56 = some (.iload 1, 1, 0) := rfl
theorem at_53_57 : am_at am_m53 57 = some (.iload 5, 2, 0) := rfl
theorem at_53_59 : am_at am_m53 59 = some (.iushr, 1, 0) := rfl
theorem at_53_60 : am_at am_m53 60 = some (.iconst 1, 1, 0) := rfl
theorem at_53_61 : am_at am_m53 61 = some (.iand, 1, 0) := rfl
theorem at_53_62 : am_at am_m53 62 = some (.ifCond .ne 76, 3, 0) := rfl
theorem at_53_65 : am_at am_m53 65 = some (.aload 0, 1, 0) := rfl
theorem at_53_66 : am_at am_m53 66 = some (.getfield 303, 3, 26) := rfl
theorem at_53_69 : am_at am_m53 69 = some (.lload 2, 1, 0) := rfl
theorem at_53_70 : am_at am_m53 70 = some (.invokevirtual 23, 3, 247) := rfl
theorem at_53_73 : am_at am_m53 73 = some (.goto 84, 3, 0) := rfl
theorem at_53_76 : am_at am_m53 76 = some (.aload 0, 1, 0) := rfl
theorem at_53_77 : am_at am_m53 77 = some (.getfield 303, 3, 26) := rfl
theorem at_53_80 : am_at am_m53 80 = some (.lload 2, 1, 0) := rfl
theorem at_53_81 : am_at am_m53 81 = some (.invokevirtual 24, 3, 250) := rfl
theorem at_53_84 : am_at am_m53 84 = some (.lstore 2, 1, 0) := rfl
theorem at_53_85 : am_at am_m53 85 = some (.iinc 5 (-1), 3, 0) := rfl
theorem at_53_88 : am_at am_m53 88 = some (.goto 39, 3, 0) := rfl
theorem at_53_91 : am_at am_m53 91 = some (.lload 2, 1, 0) := rfl
theorem at_53_92 : am_at am_m53 92 = some (.lreturn, 1, 0) := rfl
def g_53_84 (n : Nat) (H39 : Int32 → Int64 → Int32 → amS → amQ) (l1 : Int32) (l5 : Int32) (s0 : Int64) (S : amS) : amQ := H39 l1 s0 (l5 + (-1)) S
theorem t_53_84 {X : amX} {d e : Nat} {R : amS} {u : Nat → Int64} {H39 : Int32 → Int64 → Int32 → amS → amQ} (hd : 2 ≤ d) (n : Nat) (hH39 : ∀ (l1 : Int32) (l2 : Int64) (l5 : Int32) (S : amS), AW X d am_m53 (wc R u) e 39 [(0, .ref 24), (1, .int l1), (2, .long l2), (5, .int l5)] [] S (H39 l1 l2 l5 S)) (l1 : Int32) (l5 : Int32) (s0 : Int64) (S : amS) : AW X d am_m53 (wc R u) e 84 [(0, .ref 24), (1, .int l1), (5, .int l5)] [.long s0] S (g_53_84 n H39 l1 l5 s0 S) := by
  unfold g_53_84
  refine aw_lstore at_53_84 (by decide) rfl rfl ?_
  refine aw_iinc at_53_85 rfl (by decide) rfl ic_m1 rfl ?_
  refine aw_goto at_53_88 ?_
  exact aw_sub (al_cons rfl (al_cons rfl (al_cons rfl (al_cons rfl al_nil)))) (hH39 l1 s0 (l5 + (-1)) S)
def h_53_39 (n : Nat) (H39 : Int32 → Int64 → Int32 → amS → amQ) (l1 : Int32) (l2 : Int64) (l5 : Int32) (S : amS) : amQ := if l5 < 0 then some (.inl (some (.long l2)), S) else az_bI (g_112 l2 S) fun x1 S2 => if x1 = 2 then if ((az_ushr l1 l5) &&& 1) = 0 then az_bJ (g_23 l2 S2) fun x5 S6 => g_53_84 n H39 l1 l5 x5 S6 else az_bJ (g_24 l2 S2) fun x3 S4 => g_53_84 n H39 l1 l5 x3 S4 else some (.inl (some (.long 21474836480)), S2)
def g_53_39 : Nat → Int32 → Int64 → Int32 → amS → amQ
  | 0 => fun _ _ _ _ => none
  | n + 1 => h_53_39 n (g_53_39 n)
theorem th_53_39 {X : amX} {d e : Nat} {R : amS} {u : Nat → Int64} {H39 : Int32 → Int64 → Int32 → amS → amQ} (hd : 2 ≤ d) (n : Nat) (hH39 : ∀ (l1 : Int32) (l2 : Int64) (l5 : Int32) (S : amS), AW X d am_m53 (wc R u) e 39 [(0, .ref 24), (1, .int l1), (2, .long l2), (5, .int l5)] [] S (H39 l1 l2 l5 S)) (l1 : Int32) (l2 : Int64) (l5 : Int32)  (S : amS) : AW X d am_m53 (wc R u) e 39 [(0, .ref 24), (1, .int l1), (2, .long l2), (5, .int l5)] [] S (h_53_39 n H39 l1 l2 l5 S) := by
  unfold h_53_39
  refine aw_iload at_53_39 rfl ?_
  refine aw_if_lt at_53_41 ?_ ?_
  · refine aw_lload at_53_91 rfl ?_
    exact aw_rJ at_53_92 rfl
  · refine aw_lload at_53_44 rfl ?_
    refine aw_cI at_53_45 rfl (c_112 (by omega) _ _) (fun _ h => by cases h) rfl (fun x1 S2 => ?_)
    refine aw_ic 2 at_53_48 ic_2 ?_
    refine aw_icmp_eq at_53_49 ?_ ?_
    · refine aw_iload at_53_56 rfl ?_
      refine aw_iload at_53_57 rfl ?_
      refine aw_iushr at_53_59 ?_
      refine aw_ic 1 at_53_60 ic_1 ?_
      refine aw_iand at_53_61 ?_
      refine aw_if_ne at_53_62 ?_ ?_
      · refine aw_aload at_53_76 rfl ?_
        refine aw_getf at_53_77 gf_303 ?_
        refine aw_lload at_53_80 rfl ?_
        refine aw_cJ at_53_81 rfl (c_24 (by omega) _ _) (fun _ h => by cases h) rfl (fun x3 S4 => ?_)
        exact aw_sub (al_cons rfl (al_cons rfl (al_cons rfl al_nil))) (t_53_84 (by omega) n hH39 l1 l5 x3 S4)
      · refine aw_aload at_53_65 rfl ?_
        refine aw_getf at_53_66 gf_303 ?_
        refine aw_lload at_53_69 rfl ?_
        refine aw_cJ at_53_70 rfl (c_23 (by omega) _ _) (fun _ h => by cases h) rfl (fun x5 S6 => ?_)
        refine aw_goto at_53_73 ?_
        exact aw_sub (al_cons rfl (al_cons rfl (al_cons rfl al_nil))) (t_53_84 (by omega) n hH39 l1 l5 x5 S6)
    · refine aw_lc 21474836480 at_53_52 (by decide) ?_
      exact aw_rJ at_53_55 rfl
theorem t_53_39 {X : amX} {d e : Nat} {R : amS} {u : Nat → Int64} (hd : 2 ≤ d) : ∀ (n : Nat)  (l1 : Int32) (l2 : Int64) (l5 : Int32) (S : amS), AW X d am_m53 (wc R u) e 39 [(0, .ref 24), (1, .int l1), (2, .long l2), (5, .int l5)] [] S (g_53_39 n l1 l2 l5 S)
  | 0, _, _, _, _ => aw_none
  | n + 1, l1, l2, l5, S => th_53_39 hd n (t_53_39 hd n) l1 l2 l5 S
def g_53_33 (n : Nat) (l1 : Int32) (l2 : Int64) (l4 : Int32) (S : amS) : amQ := az_st (l4 - 1) fun x1 => g_53_39 n l1 l2 x1 S
theorem t_53_33 {X : amX} {d e : Nat} {R : amS} {u : Nat → Int64} (hd : 2 ≤ d) (n : Nat)  (l1 : Int32) (l2 : Int64) (l4 : Int32) (S : amS) : AW X d am_m53 (wc R u) e 33 [(0, .ref 24), (1, .int l1), (2, .long l2), (4, .int l4)] [] S (g_53_33 n l1 l2 l4 S) := by
  unfold g_53_33
  refine aw_iload at_53_33 rfl ?_
  refine aw_ic 1 at_53_35 ic_1 ?_
  refine aw_isub at_53_36 ?_
  refine aw_nameI (fun x1 => ?_)
  refine aw_istore at_53_37 (by decide) rfl rfl ?_
  exact aw_sub (al_cons rfl (al_cons rfl (al_cons rfl (al_cons rfl al_nil)))) (t_53_39 (by omega) n l1 l2 x1 S)
def h_53_15 (n : Nat) (H15 : Int32 → Int64 → Int32 → amS → amQ) (l1 : Int32) (l2 : Int64) (l4 : Int32) (S : amS) : amQ := if l4 ≤ 0 then g_53_33 n l1 l2 l4 S else if (az_ushr l1 l4) = 0 then H15 l1 l2 (l4 + (-1)) S else g_53_33 n l1 l2 l4 S
def g_53_15 : Nat → Int32 → Int64 → Int32 → amS → amQ
  | 0 => fun _ _ _ _ => none
  | n + 1 => h_53_15 n (g_53_15 n)
theorem th_53_15 {X : amX} {d e : Nat} {R : amS} {u : Nat → Int64} {H15 : Int32 → Int64 → Int32 → amS → amQ} (hd : 2 ≤ d) (n : Nat) (hH15 : ∀ (l1 : Int32) (l2 : Int64) (l4 : Int32) (S : amS), AW X d am_m53 (wc R u) e 15 [(0, .ref 24), (1, .int l1), (2, .long l2), (4, .int l4)] [] S (H15 l1 l2 l4 S)) (l1 : Int32) (l2 : Int64) (l4 : Int32)  (S : amS) : AW X d am_m53 (wc R u) e 15 [(0, .ref 24), (1, .int l1), (2, .long l2), (4, .int l4)] [] S (h_53_15 n H15 l1 l2 l4 S) := by
  unfold h_53_15
  refine aw_iload at_53_15 rfl ?_
  refine aw_if_le at_53_17 ?_ ?_
  · exact aw_sub (al_cons rfl (al_cons rfl (al_cons rfl (al_cons rfl al_nil)))) (t_53_33 (by omega) n l1 l2 l4 S)
  · refine aw_iload at_53_20 rfl ?_
    refine aw_iload at_53_21 rfl ?_
    refine aw_iushr at_53_23 ?_
    refine aw_if_ne at_53_24 ?_ ?_
    · exact aw_sub (al_cons rfl (al_cons rfl (al_cons rfl (al_cons rfl al_nil)))) (t_53_33 (by omega) n l1 l2 l4 S)
    · refine aw_iinc at_53_27 rfl (by decide) rfl ic_m1 rfl ?_
      refine aw_goto at_53_30 ?_
      exact aw_sub (al_cons rfl (al_cons rfl (al_cons rfl (al_cons rfl al_nil)))) (hH15 l1 l2 (l4 + (-1)) S)
theorem t_53_15 {X : amX} {d e : Nat} {R : amS} {u : Nat → Int64} (hd : 2 ≤ d) : ∀ (n : Nat)  (l1 : Int32) (l2 : Int64) (l4 : Int32) (S : amS), AW X d am_m53 (wc R u) e 15 [(0, .ref 24), (1, .int l1), (2, .long l2), (4, .int l4)] [] S (g_53_15 n l1 l2 l4 S)
  | 0, _, _, _, _ => aw_none
  | n + 1, l1, l2, l4, S => th_53_15 hd n (t_53_15 hd n) l1 l2 l4 S
def g_53 (n : Nat) (l1 : Int32) (S : amS) : amQ := az_bJ (g_36 ((S.1 24 8) - 1) S) fun x1 S2 => g_53_15 n l1 x1 30 S2
theorem t_53 {X : amX} {d e : Nat} {R : amS} {u : Nat → Int64} (hd : 2 ≤ d) (n : Nat)  (l1 : Int32) (S : amS) : AW X d am_m53 (wc R u) e 0 [(0, .ref 24), (1, .int l1)] [] S (g_53 n l1 S) := by
  unfold g_53
  refine aw_aload at_53_0 rfl ?_
  refine aw_aload at_53_1 rfl ?_
  refine aw_getf at_53_2 gf_308 ?_
  refine aw_ic 1 at_53_5 ic_1 ?_
  refine aw_isub at_53_6 ?_
  refine aw_cJ at_53_7 rfl (c_36 (by omega) _ _) (fun _ h => by cases h) rfl (fun x1 S2 => ?_)
  refine aw_lstore at_53_10 (by decide) rfl rfl ?_
  refine aw_ic 30 at_53_11 ic_30 ?_
  refine aw_istore at_53_13 (by decide) rfl rfl ?_
  exact aw_sub (al_cons rfl (al_cons rfl (al_cons rfl (al_cons rfl al_nil)))) (t_53_15 (by omega) n l1 x1 30 S2)
theorem c_53 {X : amX} {d : Nat} {R : amS} {u : Nat → Int64} (hd : 3 ≤ d) (n : Nat) (l1 : Int32) (S : amS) : CW X d 53 [.ref 24, .int l1] (wc R u) S (g_53 n l1 S) := cw_up (by omega) (fun d' h => by
  subst h
  exact cw_of rfl (by decide) (Nat.le_of_ble_eq_true rfl) rfl (fun e => t_53 (by omega) n l1 S))
/-! 55: ListDesk$Names.clear()V -/
theorem at_55_0 : am_at am_m55 0 = some (.aload 0, 1, 0) := rfl
theorem at_55_1 : am_at am_m55 1 = some (.iconst 0, 1, 0) := rfl
theorem at_55_2 : am_at am_m55 2 = some (.putfield 404, 3, 31) := rfl
theorem at_55_5 : am_at am_m55 5 = some (.aload 0, 1, 0) := rfl
theorem at_55_6 : am_at am_m55 6 = some (.iconst 0, 1, 0) := rfl
theorem at_55_7 : am_at am_m55 7 = some (.putfield 406, 3, 35) := rfl
theorem at_55_10 : am_at am_m55 10 = some (.aload 0, 1, 0) := rfl
theorem at_55_11 : am_at am_m55 11 = some (.iconst 0, 1, 0) := rfl
theorem at_55_12 : am_at am_m55 12 = some (.putfield 408, 3, 38) := rfl
theorem at_55_15 : am_at am_m55 15 = some (.return_, 1, 0) := rfl
def g_55 (S : amS) : amQ := az_st (sI S 5 4 0) fun S1 => az_st (sI S1 5 6 0) fun S2 => az_st (sI S2 5 8 0) fun S3 => some (.inl none, S3)
theorem t_55 {X : amX} {d e : Nat} {R : amS} {u : Nat → Int64} (hd : 0 ≤ d)  (S : amS) : AW X d am_m55 (wc R u) e 0 [(0, .ref 5)] [] S (g_55 S) := by
  unfold g_55
  refine aw_aload at_55_0 rfl ?_
  refine aw_ic 0 at_55_1 ic_0 ?_
  refine aw_putf at_55_2 (pf_404 _) (fun S1 => ?_)
  refine aw_aload at_55_5 rfl ?_
  refine aw_ic 0 at_55_6 ic_0 ?_
  refine aw_putf at_55_7 (pf_406 _) (fun S2 => ?_)
  refine aw_aload at_55_10 rfl ?_
  refine aw_ic 0 at_55_11 ic_0 ?_
  refine aw_putf at_55_12 (pf_408 _) (fun S3 => ?_)
  exact aw_rV at_55_15 rfl
theorem c_55 {X : amX} {d : Nat} {R : amS} {u : Nat → Int64} (hd : 1 ≤ d) (S : amS) : CW X d 55 [.ref 5] (wc R u) S (g_55 S) := cw_up (by omega) (fun d' h => by
  subst h
  exact cw_of rfl (by decide) (Nat.le_of_ble_eq_true rfl) rfl (fun e => t_55 (by omega) S))
/-! 56: ListDesk$Names.addPending(I)V -/
theorem at_56_0 : am_at am_m56 0 = some (.aload 0, 1, 0) := rfl
theorem at_56_1 : am_at am_m56 1 = some (.getfield 407, 3, 28) := rfl
theorem at_56_4 : am_at am_m56 4 = some (.aload 0, 1, 0) := rfl
theorem at_56_5 : am_at am_m56 5 = some (.getfield 408, 3, 38) := rfl
theorem at_56_8 : am_at am_m56 8 = some (.iload 1, 1, 0) := rfl
theorem at_56_9 : am_at am_m56 9 = some (.invokestatic 95, 3, 41) := rfl
theorem at_56_12 : am_at am_m56 12 = some (.aload 0, 1, 0) := rfl
theorem at_56_13 : am_at am_m56 13 = some (.dup, 1, 0) := rfl
theorem at_56_14 : am_at am_m56 14 = some (.getfield 408, 3, 38) := rfl
theorem at_56_17 : am_at am_m56 17 = some (.iconst 1, 1, 0) := rfl
theorem at_56_18 : am_at am_m56 18 = some (.iadd, 1, 0) := rfl
theorem at_56_19 : am_at am_m56 19 = some (.putfield 408, 3, 38) := rfl
theorem at_56_22 : am_at am_m56 22 = some (.return_, 1, 0) := rfl
def g_56 (l1 : Int32) (S : amS) : amQ := az_st (sR S 11 250 (S.1 5 8) l1) fun S1 => az_st (sI S1 5 8 ((S1.1 5 8) + 1)) fun S2 => some (.inl none, S2)
theorem t_56 {X : amX} {d e : Nat} {R : amS} {u : Nat → Int64} (hd : 1 ≤ d)  (l1 : Int32) (S : amS) : AW X d am_m56 (wc R u) e 0 [(0, .ref 5), (1, .int l1)] [] S (g_56 l1 S) := by
  unfold g_56
  refine aw_aload at_56_0 rfl ?_
  refine aw_getf at_56_1 gf_407 ?_
  refine aw_aload at_56_4 rfl ?_
  refine aw_getf at_56_5 gf_408 ?_
  refine aw_iload at_56_8 rfl ?_
  refine aw_pV at_56_9 rfl (cw_95 (by omega) (by decide) (fun e => ar_11) (fun e => al_11) (fun e k x => as_11 k x)) (fun S1 => ?_)
  refine aw_aload at_56_12 rfl ?_
  refine aw_dupA at_56_13 ?_
  refine aw_getf at_56_14 gf_408 ?_
  refine aw_ic 1 at_56_17 ic_1 ?_
  refine aw_iadd at_56_18 ?_
  refine aw_putf at_56_19 (pf_408 _) (fun S2 => ?_)
  exact aw_rV at_56_22 rfl
theorem c_56 {X : amX} {d : Nat} {R : amS} {u : Nat → Int64} (hd : 2 ≤ d) (l1 : Int32) (S : amS) : CW X d 56 [.ref 5, .int l1] (wc R u) S (g_56 l1 S) := cw_up (by omega) (fun d' h => by
  subst h
  exact cw_of rfl (by decide) (Nat.le_of_ble_eq_true rfl) rfl (fun e => t_56 (by omega) l1 S))
/-! 57: ListDesk$Names.isPending(II)Z -/
theorem at_57_0 : am_at am_m57 0 = some (.iload 1, 1, 0) := rfl
theorem at_57_1 : am_at am_m57 1 = some (.istore 3, 1, 0) := rfl
theorem at_57_2 : am_at am_m57 2 = some (.iload 3, 1, 0) := rfl
theorem at_57_3 : am_at am_m57 3 = some (.aload 0, 1, 0) := rfl
theorem at_57_4 : am_at am_m57 4 = some (.getfield 408, 3, 38) := rfl
theorem at_57_7 : am_at am_m57 7 = some (.if_icmp .ge 30, 3, 0) := rfl
theorem at_57_10 : am_at am_m57 10 = some (.aload 0, 1, 0) := rfl
theorem at_57_11 : am_at am_m57 11 = some (.getfield 407, 3, 28) := rfl
theorem at_57_14 : am_at am_m57 14 = some (.iload 3, 1, 0) := rfl
theorem at_57_15 : am_at am_m57 15 = some (.invokestatic 94, 3, 47) := rfl
theorem at_57_18 : am_at am_m57 18 = some (.iload 2, 1, 0) := rfl
theorem at_57_19 : am_at am_m57 19 = some (.if_icmp .ne 24, 3, 0) := rfl
theorem at_57_22 : am_at am_m57 22 = some (.iconst 1, 1, 0) := rfl
theorem at_57_23 : am_at am_m57 23 = some (.ireturn, 1, 0) := rfl
theorem at_57_24 : am_at am_m57 24 = some (.iinc 3 1, 3, 0) := rfl
theorem at_57_27 : am_at am_m57 27 = some (.goto 2, 3, 0) := rfl
theorem at_57_30 : am_at am_m57 30 = some (.iconst 0, 1, 0) := rfl
theorem at_57_31 : am_at am_m57 31 = some (.ireturn, 1, 0) := rfl
def h_57_2 (n : Nat) (H2 : Int32 → Int32 → amS → amQ) (l2 : Int32) (l3 : Int32) (S : amS) : amQ := if (S.1 5 8) ≤ l3 then some (.inl (some (.int 0)), S) else if (az_rg 250 (S.1 11) l3) = l2 then some (.inl (some (.int 1)), S) else H2 l2 (l3 + 1) S
def g_57_2 : Nat → Int32 → Int32 → amS → amQ
  | 0 => fun _ _ _ => none
  | n + 1 => h_57_2 n (g_57_2 n)
theorem th_57_2 {X : amX} {d e : Nat} {R : amS} {u : Nat → Int64} {H2 : Int32 → Int32 → amS → amQ} (hd : 1 ≤ d) (n : Nat) (hH2 : ∀ (l2 : Int32) (l3 : Int32) (S : amS), AW X d am_m57 (wc R u) e 2 [(0, .ref 5), (2, .int l2), (3, .int l3)] [] S (H2 l2 l3 S)) (l2 : Int32) (l3 : Int32)  (S : amS) : AW X d am_m57 (wc R u) e 2 [(0, .ref 5), (2, .int l2), (3, .int l3)] [] S (h_57_2 n H2 l2 l3 S) := by
  unfold h_57_2
  refine aw_iload at_57_2 rfl ?_
  refine aw_aload at_57_3 rfl ?_
  refine aw_getf at_57_4 gf_408 ?_
  refine aw_icmp_ge at_57_7 ?_ ?_
  · refine aw_ic 0 at_57_30 ic_0 ?_
    exact aw_rZ at_57_31 rfl (Or.inl rfl)
  · refine aw_aload at_57_10 rfl ?_
    refine aw_getf at_57_11 gf_407 ?_
    refine aw_iload at_57_14 rfl ?_
    refine aw_pI at_57_15 rfl (cw_94 (by omega) (by decide) (fun e => ai_11) (fun e => al_11)) ?_
    refine aw_iload at_57_18 rfl ?_
    refine aw_icmp_ne at_57_19 ?_ ?_
    · refine aw_iinc at_57_24 rfl (by decide) rfl ic_1 rfl ?_
      refine aw_goto at_57_27 ?_
      exact aw_sub (al_cons rfl (al_cons rfl (al_cons rfl al_nil))) (hH2 l2 (l3 + 1) S)
    · refine aw_ic 1 at_57_22 ic_1 ?_
      exact aw_rZ at_57_23 rfl (Or.inr rfl)
theorem t_57_2 {X : amX} {d e : Nat} {R : amS} {u : Nat → Int64} (hd : 1 ≤ d) : ∀ (n : Nat)  (l2 : Int32) (l3 : Int32) (S : amS), AW X d am_m57 (wc R u) e 2 [(0, .ref 5), (2, .int l2), (3, .int l3)] [] S (g_57_2 n l2 l3 S)
  | 0, _, _, _ => aw_none
  | n + 1, l2, l3, S => th_57_2 hd n (t_57_2 hd n) l2 l3 S
def g_57 (n : Nat) (l1 : Int32) (l2 : Int32) (S : amS) : amQ := g_57_2 n l2 l1 S
theorem t_57 {X : amX} {d e : Nat} {R : amS} {u : Nat → Int64} (hd : 1 ≤ d) (n : Nat)  (l1 : Int32) (l2 : Int32) (S : amS) : AW X d am_m57 (wc R u) e 0 [(0, .ref 5), (1, .int l1), (2, .int l2)] [] S (g_57 n l1 l2 S) := by
  unfold g_57
  refine aw_iload at_57_0 rfl ?_
  refine aw_istore at_57_1 (by decide) rfl rfl ?_
  exact aw_sub (al_cons rfl (al_cons rfl (al_cons rfl al_nil))) (t_57_2 (by omega) n l2 l1 S)
theorem c_57 {X : amX} {d : Nat} {R : amS} {u : Nat → Int64} (hd : 2 ≤ d) (n : Nat) (l1 : Int32) (l2 : Int32) (S : amS) : CW X d 57 [.ref 5, .int l1, .int l2] (wc R u) S (g_57 n l1 l2 S) := cw_up (by omega) (fun d' h => by
  subst h
  exact cw_of rfl (by decide) (Nat.le_of_ble_eq_true rfl) rfl (fun e => t_57 (by omega) n l1 l2 S))
/-! 64: ListDesk$Names.setBoxed(IZ)V -/
theorem at_64_0 : am_at am_m64 0 = some (.iload 1, 1, 0) := rfl
theorem at_64_1 : am_at am_m64 1 = some (.ifCond .lt 20, 3, 0) := rfl
theorem at_64_4 : am_at am_m64 4 = some (.iload 1, 1, 0) := rfl
theorem at_64_5 : am_at am_m64 5 = some (.aload 0, 1, 0) := rfl
theorem at_64_6 : am_at am_m64 6 = some (.getfield 403, 3, 21) := rfl
theorem at_64_9 : am_at am_m64 9 = some (.arraylength, 1, 0) := rfl
theorem at_64_10 : am_at am_m64 10 = some (.if_icmp .ge 20, 3, 0) := rfl
theorem at_64_13 : am_at am_m64 13 = some (.aload 0, 1, 0) := rfl
theorem at_64_14 : am_at am_m64 14 = some (.getfield 403, 3, 21) := rfl
theorem at_64_17 : am_at am_m64 17 = some (.iload 1, 1, 0) := rfl
theorem at_64_18 : am_at am_m64 18 = some (.iload 2, 1, 0) := rfl
theorem at_64_19 : am_at am_m64 19 = some (.bastore, 1, 0) := rfl
theorem at_64_20 : am_at am_m64 20 = some (.return_, 1, 0) := rfl
def g_64 (l1 : Int32) (l2 : Int32) (S : amS) : amQ := if l1 < 0 then some (.inl none, S) else if 250 ≤ l1 then some (.inl none, S) else az_ck l1 250 (az_st (sI S 9 l1.toNatClampNeg (vp_nar .boolean l2)) fun S1 => some (.inl none, S1))
theorem t_64 {X : amX} {d e : Nat} {R : amS} {u : Nat → Int64} (hd : 0 ≤ d)  (l1 : Int32) (l2 : Int32) (S : amS) : AW X d am_m64 (wc R u) e 0 [(0, .ref 5), (1, .int l1), (2, .int l2)] [] S (g_64 l1 l2 S) := by
  unfold g_64
  refine aw_iload at_64_0 rfl ?_
  refine aw_if_lt at_64_1 ?_ ?_
  · exact aw_rV at_64_20 rfl
  · refine aw_iload at_64_4 rfl ?_
    refine aw_aload at_64_5 rfl ?_
    refine aw_getf at_64_6 gf_403 ?_
    refine aw_alen 250 at_64_9 al_9 (by decide) ?_
    refine aw_icmp_ge at_64_10 ?_ ?_
    · exact aw_rV at_64_20 rfl
    · refine aw_aload at_64_13 rfl ?_
      refine aw_getf at_64_14 gf_403 ?_
      refine aw_iload at_64_17 rfl ?_
      refine aw_iload at_64_18 rfl ?_
      refine aw_zast at_64_19 ar_9 (as_9 _ _) (fun S1 => ?_)
      exact aw_rV at_64_20 rfl
theorem c_64 {X : amX} {d : Nat} {R : amS} {u : Nat → Int64} (hd : 1 ≤ d) (l1 : Int32) (l2 : Int32) (S : amS) : CW X d 64 [.ref 5, .int l1, .int l2] (wc R u) S (g_64 l1 l2 S) := cw_up (by omega) (fun d' h => by
  subst h
  exact cw_of rfl (by decide) (Nat.le_of_ble_eq_true rfl) rfl (fun e => t_64 (by omega) l1 l2 S))
/-! 58: ListDesk$Names.bindPending(III)I -/
theorem at_58_0 : am_at am_m58 0 = some (.aload 0, 1, 0) := rfl
theorem at_58_1 : am_at am_m58 1 = some (.getfield 408, 3, 38) := rfl
theorem at_58_4 : am_at am_m58 4 = some (.iload 1, 1, 0) := rfl
theorem at_58_5 : am_at am_m58 5 = some (.isub, 1, 0) := rfl
theorem at_58_6 : am_at am_m58 6 = some (.istore 4, 2, 0) := rfl
theorem at_58_8 : am_at am_m58 8 = some (.iconst 0, 1, 0) := rfl
theorem at_58_9 : am_at am_m58 9 = some (.istore 5, 2, 0) := rfl
theorem at_58_11 : am_at am_m58 11 = some (.iload 5, 2, 0) := rfl
theorem at_58_13 : am_at am_m58 13 = some (.iload 4, 2, 0) := rfl
theorem at_58_15 : am_at am_m58 15 = some (.if_icmp .ge 117, 3, 0) := rfl
theorem at_58_18 : am_at am_m58 18 = some (.aload 0, 1, 0) := rfl
theorem at_58_19 : am_at am_m58 19 = some (.getfield 400, 3, 9) := rfl
theorem at_58_22 : am_at am_m58 22 = some (.aload 0, 1, 0) := rfl
theorem at_58_23 : am_at am_m58 23 = some (.getfield 404, 3, 31) := rfl
theorem at_58_26 : am_at am_m58 26 = some (.aload 0, 1, 0) := rfl
theorem at_58_27 : am_at am_m58 27 = some (.getfield 407, 3, 28) := rfl
theorem at_58_30 : am_at am_m58 30 = some (.iload 1, 1, 0) := rfl
theorem at_58_31 : am_at am_m58 31 = some (.iload 5, 2, 0) := rfl
theorem at_58_33 : am_at am_m58 33 = some (.iadd, 1, 0) := rfl
theorem at_58_34 : am_at am_m58 34 = some (.invokestatic 94, 3, 47) := rfl
theorem at_58_37 : am_at am_m58 37 = some (.invokestatic 95, 3, 41) := rfl
theorem at_58_40 : am_at am_m58 40 = some (.aload 0, 1, 0) := rfl
theorem at_58_41 : am_at am_m58 41 = some (.getfield 401, 3, 15) := rfl
theorem at_58_44 : am_at am_m58 44 = some (.aload 0, 1, 0) := rfl
theorem at_58_45 : am_at am_m58 45 = some (.getfield 404, 3, 31) := rfl
theorem at_58_48 : am_at am_m58 48 = some (.iload 2, 1, 0) := rfl
theorem at_58_49 : am_at am_m58 49 = some (.iload 5, 2, 0) := rfl
theorem at_58_51 : am_at am_m58 51 = some (.iadd, 1, 0) := rfl
theorem at_58_52 : am_at am_m58 52 = some (.invokestatic 95, 3, 41) := rfl
theorem at_58_55 : am_at am_m58 55 = some (.aload 0, 1, 0) := rfl
theorem at_58_56 : am_at am_m58 56 = some (.getfield 402, 3, 18) := rfl
theorem at_58_59 : am_at am_m58 59 = some (.aload 0, 1, 0) := rfl
theorem at_58_60 : am_at am_m58 60 = some (.getfield 404, 3, 31) := rfl
theorem at_58_63 : am_at am_m58 63 = some (.iload 3, 1, 0) := rfl
theorem at_58_64 : am_at am_m58 64 = some (.invokestatic 95, 3, 41) := rfl
theorem at_58_67 : am_at am_m58 67 = some (.aload 0, 1, 0) := rfl
theorem at_58_68 : am_at am_m58 68 = some (.aload 0, 1, 0) := rfl
theorem at_58_69 : am_at am_m58 69 = some (.getfield 404, 3, 31) := rfl
theorem at_58_72 : am_at am_m58 72 = some (.iconst 0, 1, 0) := rfl
theorem at_58_73 : am_at am_m58 73 = some (.invokevirtual 64, 3, 51) := rfl
theorem at_58_76 : am_at am_m58 76 = some (.aload 0, 1, 0) := rfl
theorem at_58_77 : am_at am_m58 77 = some (.getfield 405, 3, 25) := rfl
theorem at_58_80 : am_at am_m58 80 = some (.aload 0, 1, 0) := rfl
theorem at_58_81 : am_at am_m58 81 = some (.getfield 406, 3, 35) := rfl
theorem at_58_84 : am_at am_m58 84 = some (.aload 0, 1, 0) := rfl
theorem at_58_85 : am_at am_m58 85 = some (.getfield 404, 3, 31) := rfl
theorem at_58_88 : am_at am_m58 88 = some (.invokestatic 95, 3, 41) := rfl
theorem at_58_91 : am_at am_m58 91 = some (.aload 0, 1, 0) := rfl
theorem at_58_92 : am_at am_m58 92 = some (.dup, 1, 0) := rfl
theorem at_58_93 : am_at am_m58 93 = some (.getfield 406, 3, 35) := rfl
theorem at_58_96 : am_at am_m58 96 = some (.iconst 1, 1, 0) := rfl
theorem at_58_97 : am_at am_m58 97 = some (.iadd, 1, 0) := rfl
theorem at_58_98 : am_at am_m58 98 = some (.putfield 406, 3, 35) := rfl
theorem at_58_101 : am_at am_m58 101 = some (.aload 0, 1, 0) := rfl
theorem at_58_102 : am_at am_m58 102 = some (.dup, 1, 0) := rfl
theorem at_58_103 : am_at am_m58 103 = some (.getfield 404, 3, 31) := rfl
theorem at_58_106 : am_at am_m58 106 = some (.iconst 1, 1, 0) := rfl
theorem at_58_107 : am_at am_m58 107 = some (.iadd, 1, 0) := rfl
theorem at_58_108 : am_at am_m58 108 = some (.putfield 404, 3, 31) := rfl
theorem at_58_111 : am_at am_m58 111 = some (.iinc 5 1, 3, 0) := rfl
theorem at_58_114 : am_at am_m58 114 = some (.goto 11, 3, 0) := rfl
theorem at_58_117 : am_at am_m58 117 = some (.aload 0, 1, 0) := rfl
theorem at_58_118 : am_at am_m58 118 = some (.iload 1, 1, 0) := rfl
theorem at_58_119 : am_at am_m58 119 = some (.putfield 408, 3, 38) := rfl
theorem at_58_122 : am_at am_m58 122 = some (.iload 4, 2, 0) := rfl
theorem at_58_124 : am_at am_m58 124 = some (.ireturn, 1, 0) := rfl
def h_58_11 (n : Nat) (H11 : Int32 → Int32 → Int32 → Int32 → Int32 → amS → amQ) (l1 : Int32) (l2 : Int32) (l3 : Int32) (l4 : Int32) (l5 : Int32) (S : amS) : amQ := if l4 ≤ l5 then az_st (sI S 5 8 l1) fun S1 => some (.inl (some (.int l4)), S1) else az_st (sR S 6 250 (S.1 5 4) (az_rg 250 (S.1 11) (l1 + l5))) fun S2 => az_st (sR S2 7 250 (S2.1 5 4) (l2 + l5)) fun S3 => az_st (sR S3 8 250 (S3.1 5 4) l3) fun S4 => az_bV (g_64 (S4.1 5 4) 0 S4) fun S5 => az_st (sR S5 10 250 (S5.1 5 6) (S5.1 5 4)) fun S6 => az_st (sI S6 5 6 ((S6.1 5 6) + 1)) fun S7 => az_st (sI S7 5 4 ((S7.1 5 4) + 1)) fun S8 => H11 l1 l2 l3 l4 (l5 + 1) S8
def g_58_11 : Nat → Int32 → Int32 → Int32 → Int32 → Int32 → amS → amQ
  | 0 => fun _ _ _ _ _ _ => none
  | n + 1 => h_58_11 n (g_58_11 n)
theorem th_58_11 {X : amX} {d e : Nat} {R : amS} {u : Nat → Int64} {H11 : Int32 → Int32 → Int32 → Int32 → Int32 → amS → amQ} (hd : 1 ≤ d) (n : Nat) (hH11 : ∀ (l1 : Int32) (l2 : Int32) (l3 : Int32) (l4 : Int32) (l5 : Int32) (S : amS), AW X d am_m58 (wc R u) e 11 [(0, .ref 5), (1, .int l1), (2, .int l2), (3, .int l3), (4, .int l4), (5, .int l5)] [] S (H11 l1 l2 l3 l4 l5 S)) (l1 : Int32) (l2 : Int32) (l3 : Int32) (l4 : Int32) (l5 : Int32)  (S : amS) : AW X d am_m58 (wc R u) e 11 [(0, .ref 5), (1, .int l1), (2, .int l2), (3, .int l3), (4, .int l4), (5, .int l5)] [] S (h_58_11 n H11 l1 l2 l3 l4 l5 S) := by
  unfold h_58_11
  refine aw_iload at_58_11 rfl ?_
  refine aw_iload at_58_13 rfl ?_
  refine aw_icmp_ge at_58_15 ?_ ?_
  · refine aw_aload at_58_117 rfl ?_
    refine aw_iload at_58_118 rfl ?_
    refine aw_putf at_58_119 (pf_408 _) (fun S1 => ?_)
    refine aw_iload at_58_122 rfl ?_
    exact aw_rI at_58_124 rfl
  · refine aw_aload at_58_18 rfl ?_
    refine aw_getf at_58_19 gf_400 ?_
    refine aw_aload at_58_22 rfl ?_
    refine aw_getf at_58_23 gf_404 ?_
    refine aw_aload at_58_26 rfl ?_
    refine aw_getf at_58_27 gf_407 ?_
    refine aw_iload at_58_30 rfl ?_
    refine aw_iload at_58_31 rfl ?_
    refine aw_iadd at_58_33 ?_
    refine aw_pI at_58_34 rfl (cw_94 (by omega) (by decide) (fun e => ai_11) (fun e => al_11)) ?_
    refine aw_pV at_58_37 rfl (cw_95 (by omega) (by decide) (fun e => ar_6) (fun e => al_6) (fun e k x => as_6 k x)) (fun S2 => ?_)
    refine aw_aload at_58_40 rfl ?_
    refine aw_getf at_58_41 gf_401 ?_
    refine aw_aload at_58_44 rfl ?_
    refine aw_getf at_58_45 gf_404 ?_
    refine aw_iload at_58_48 rfl ?_
    refine aw_iload at_58_49 rfl ?_
    refine aw_iadd at_58_51 ?_
    refine aw_pV at_58_52 rfl (cw_95 (by omega) (by decide) (fun e => ar_7) (fun e => al_7) (fun e k x => as_7 k x)) (fun S3 => ?_)
    refine aw_aload at_58_55 rfl ?_
    refine aw_getf at_58_56 gf_402 ?_
    refine aw_aload at_58_59 rfl ?_
    refine aw_getf at_58_60 gf_404 ?_
    refine aw_iload at_58_63 rfl ?_
    refine aw_pV at_58_64 rfl (cw_95 (by omega) (by decide) (fun e => ar_8) (fun e => al_8) (fun e k x => as_8 k x)) (fun S4 => ?_)
    refine aw_aload at_58_67 rfl ?_
    refine aw_aload at_58_68 rfl ?_
    refine aw_getf at_58_69 gf_404 ?_
    refine aw_ic 0 at_58_72 ic_0 ?_
    refine aw_cV at_58_73 rfl (c_64 (by omega) _ _ _) (fun _ h => by cases h) rfl (fun S5 => ?_)
    refine aw_aload at_58_76 rfl ?_
    refine aw_getf at_58_77 gf_405 ?_
    refine aw_aload at_58_80 rfl ?_
    refine aw_getf at_58_81 gf_406 ?_
    refine aw_aload at_58_84 rfl ?_
    refine aw_getf at_58_85 gf_404 ?_
    refine aw_pV at_58_88 rfl (cw_95 (by omega) (by decide) (fun e => ar_10) (fun e => al_10) (fun e k x => as_10 k x)) (fun S6 => ?_)
    refine aw_aload at_58_91 rfl ?_
    refine aw_dupA at_58_92 ?_
    refine aw_getf at_58_93 gf_406 ?_
    refine aw_ic 1 at_58_96 ic_1 ?_
    refine aw_iadd at_58_97 ?_
    refine aw_putf at_58_98 (pf_406 _) (fun S7 => ?_)
    refine aw_aload at_58_101 rfl ?_
    refine aw_dupA at_58_102 ?_
    refine aw_getf at_58_103 gf_404 ?_
    refine aw_ic 1 at_58_106 ic_1 ?_
    refine aw_iadd at_58_107 ?_
    refine aw_putf at_58_108 (pf_404 _) (fun S8 => ?_)
    refine aw_iinc at_58_111 rfl (by decide) rfl ic_1 rfl ?_
    refine aw_goto at_58_114 ?_
    exact aw_sub (al_cons rfl (al_cons rfl (al_cons rfl (al_cons rfl (al_cons rfl (al_cons rfl al_nil)))))) (hH11 l1 l2 l3 l4 (l5 + 1) S8)
theorem t_58_11 {X : amX} {d e : Nat} {R : amS} {u : Nat → Int64} (hd : 1 ≤ d) : ∀ (n : Nat)  (l1 : Int32) (l2 : Int32) (l3 : Int32) (l4 : Int32) (l5 : Int32) (S : amS), AW X d am_m58 (wc R u) e 11 [(0, .ref 5), (1, .int l1), (2, .int l2), (3, .int l3), (4, .int l4), (5, .int l5)] [] S (g_58_11 n l1 l2 l3 l4 l5 S)
  | 0, _, _, _, _, _, _ => aw_none
  | n + 1, l1, l2, l3, l4, l5, S => th_58_11 hd n (t_58_11 hd n) l1 l2 l3 l4 l5 S
def g_58 (n : Nat) (l1 : Int32) (l2 : Int32) (l3 : Int32) (S : amS) : amQ := az_st ((S.1 5 8) - l1) fun x1 => g_58_11 n l1 l2 l3 x1 0 S
theorem t_58 {X : amX} {d e : Nat} {R : amS} {u : Nat → Int64} (hd : 1 ≤ d) (n : Nat)  (l1 : Int32) (l2 : Int32) (l3 : Int32) (S : amS) : AW X d am_m58 (wc R u) e 0 [(0, .ref 5), (1, .int l1), (2, .int l2), (3, .int l3)] [] S (g_58 n l1 l2 l3 S) := by
  unfold g_58
  refine aw_aload at_58_0 rfl ?_
  refine aw_getf at_58_1 gf_408 ?_
  refine aw_iload at_58_4 rfl ?_
  refine aw_isub at_58_5 ?_
  refine aw_nameI (fun x1 => ?_)
  refine aw_istore at_58_6 (by decide) rfl rfl ?_
  refine aw_ic 0 at_58_8 ic_0 ?_
  refine aw_istore at_58_9 (by decide) rfl rfl ?_
  exact aw_sub (al_cons rfl (al_cons rfl (al_cons rfl (al_cons rfl (al_cons rfl (al_cons rfl al_nil)))))) (t_58_11 (by omega) n l1 l2 l3 x1 0 S)
theorem c_58 {X : amX} {d : Nat} {R : amS} {u : Nat → Int64} (hd : 2 ≤ d) (n : Nat) (l1 : Int32) (l2 : Int32) (l3 : Int32) (S : amS) : CW X d 58 [.ref 5, .int l1, .int l2, .int l3] (wc R u) S (g_58 n l1 l2 l3 S) := cw_up (by omega) (fun d' h => by
  subst h
  exact cw_of rfl (by decide) (Nat.le_of_ble_eq_true rfl) rfl (fun e => t_58 (by omega) n l1 l2 l3 S))
/-! 59: ListDesk$Names.release(I)V -/
theorem at_59_0 : am_at am_m59 0 = some (.aload 0, 1, 0) := rfl
theorem at_59_1 : am_at am_m59 1 = some (.dup, 1, 0) := rfl
theorem at_59_2 : am_at am_m59 2 = some (.getfield 406, 3, 35) := rfl
theorem at_59_5 : am_at am_m59 5 = some (.iload 1, 1, 0) := rfl
theorem at_59_6 : am_at am_m59 6 = some (.isub, 1, 0) := rfl
theorem at_59_7 : am_at am_m59 7 = some (.putfield 406, 3, 35) := rfl
theorem at_59_10 : am_at am_m59 10 = some (.return_, 1, 0) := rfl
def g_59 (l1 : Int32) (S : amS) : amQ := az_st (sI S 5 6 ((S.1 5 6) - l1)) fun S1 => some (.inl none, S1)
theorem t_59 {X : amX} {d e : Nat} {R : amS} {u : Nat → Int64} (hd : 0 ≤ d)  (l1 : Int32) (S : amS) : AW X d am_m59 (wc R u) e 0 [(0, .ref 5), (1, .int l1)] [] S (g_59 l1 S) := by
  unfold g_59
  refine aw_aload at_59_0 rfl ?_
  refine aw_dupA at_59_1 ?_
  refine aw_getf at_59_2 gf_406 ?_
  refine aw_iload at_59_5 rfl ?_
  refine aw_isub at_59_6 ?_
  refine aw_putf at_59_7 (pf_406 _) (fun S1 => ?_)
  exact aw_rV at_59_10 rfl
theorem c_59 {X : amX} {d : Nat} {R : amS} {u : Nat → Int64} (hd : 1 ≤ d) (l1 : Int32) (S : amS) : CW X d 59 [.ref 5, .int l1] (wc R u) S (g_59 l1 S) := cw_up (by omega) (fun d' h => by
  subst h
  exact cw_of rfl (by decide) (Nat.le_of_ble_eq_true rfl) rfl (fun e => t_59 (by omega) l1 S))
/-! 60: ListDesk$Names.innermost(I)I -/
theorem at_60_0 : am_at am_m60 0 = some (.aload 0, 1, 0) := rfl
theorem at_60_1 : am_at am_m60 1 = some (.getfield 406, 3, 35) := rfl
theorem at_60_4 : am_at am_m60 4 = some (.iconst 1, 1, 0) := rfl
theorem at_60_5 : am_at am_m60 5 = some (.isub, 1, 0) := rfl
theorem at_60_6 : am_at am_m60 6 = some (.istore 2, 1, 0) := rfl
theorem at_60_7 : am_at am_m60 7 = some (.iload 2, 1, 0) := rfl
theorem at_60_8 : am_at am_m60 8 = some (.ifCond .lt 40, 3, 0) := rfl
theorem at_60_11 : am_at am_m60 11 = some (.aload 0, 1, 0) := rfl
theorem at_60_12 : am_at am_m60 12 = some (.getfield 405, 3, 25) := rfl
theorem at_60_15 : am_at am_m60 15 = some (.iload 2, 1, 0) := rfl
theorem at_60_16 : am_at am_m60 16 = some (.invokestatic 94, 3, 47) := rfl
theorem at_60_19 : am_at am_m60 19 = some (.istore 3, 1, 0) := rfl
theorem at_60_20 : am_at am_m60 20 = some (.aload 0, 1, 0) := rfl
theorem at_60_21 : am_at am_m60 21 = some (.getfield 400, 3, 9) := rfl
theorem at_60_24 : am_at am_m60 24 = some (.iload 3, 1, 0) := rfl
theorem at_60_25 : am_at am_m60 25 = some (.invokestatic 94, 3, 47) := rfl
theorem at_60_28 : am_at am_m60 28 = some (.iload 1, 1, 0) := rfl
theorem at_60_29 : am_at am_m60 29 = some (.if_icmp .ne 34, 3, 0) := rfl
theorem at_60_32 : am_at am_m60 32 = some (.iload 3, 1, 0) := rfl
theorem at_60_33 : am_at am_m60 33 = some (.ireturn, 1, 0) := rfl
theorem at_60_34 : am_at am_m60 34 = some (.iinc 2 (-1), 3, 0) := rfl
theorem at_60_37 : am_at am_m60 37 = some (.goto 7, 3, 0) := rfl
theorem at_60_40 : am_at am_m60 40 = some (.iconst (-1), 1, 0) := rfl
theorem at_60_41 : am_at am_m60 41 = some (.ireturn, 1, 0) := rfl
def h_60_7 (n : Nat) (H7 : Int32 → Int32 → amS → amQ) (l1 : Int32) (l2 : Int32) (S : amS) : amQ := if l2 < 0 then some (.inl (some (.int ((-1)))), S) else az_st (az_rg 250 (S.1 10) l2) fun x1 => if (az_rg 250 (S.1 6) x1) = l1 then some (.inl (some (.int x1)), S) else H7 l1 (l2 + (-1)) S
def g_60_7 : Nat → Int32 → Int32 → amS → amQ
  | 0 => fun _ _ _ => none
  | n + 1 => h_60_7 n (g_60_7 n)
theorem th_60_7 {X : amX} {d e : Nat} {R : amS} {u : Nat → Int64} {H7 : Int32 → Int32 → amS → amQ} (hd : 1 ≤ d) (n : Nat) (hH7 : ∀ (l1 : Int32) (l2 : Int32) (S : amS), AW X d am_m60 (wc R u) e 7 [(0, .ref 5), (1, .int l1), (2, .int l2)] [] S (H7 l1 l2 S)) (l1 : Int32) (l2 : Int32)  (S : amS) : AW X d am_m60 (wc R u) e 7 [(0, .ref 5), (1, .int l1), (2, .int l2)] [] S (h_60_7 n H7 l1 l2 S) := by
  unfold h_60_7
  refine aw_iload at_60_7 rfl ?_
  refine aw_if_lt at_60_8 ?_ ?_
  · refine aw_ic (-1) at_60_40 ic_m1 ?_
    exact aw_rI at_60_41 rfl
  · refine aw_aload at_60_11 rfl ?_
    refine aw_getf at_60_12 gf_405 ?_
    refine aw_iload at_60_15 rfl ?_
    refine aw_pI at_60_16 rfl (cw_94 (by omega) (by decide) (fun e => ai_10) (fun e => al_10)) ?_
    refine aw_nameI (fun x1 => ?_)
    refine aw_istore at_60_19 (by decide) rfl rfl ?_
    refine aw_aload at_60_20 rfl ?_
    refine aw_getf at_60_21 gf_400 ?_
    refine aw_iload at_60_24 rfl ?_
    refine aw_pI at_60_25 rfl (cw_94 (by omega) (by decide) (fun e => ai_6) (fun e => al_6)) ?_
    refine aw_iload at_60_28 rfl ?_
    refine aw_icmp_ne at_60_29 ?_ ?_
    · refine aw_iinc at_60_34 rfl (by decide) rfl ic_m1 rfl ?_
      refine aw_goto at_60_37 ?_
      exact aw_sub (al_cons rfl (al_cons rfl (al_cons rfl al_nil))) (hH7 l1 (l2 + (-1)) S)
    · refine aw_iload at_60_32 rfl ?_
      exact aw_rI at_60_33 rfl
theorem t_60_7 {X : amX} {d e : Nat} {R : amS} {u : Nat → Int64} (hd : 1 ≤ d) : ∀ (n : Nat)  (l1 : Int32) (l2 : Int32) (S : amS), AW X d am_m60 (wc R u) e 7 [(0, .ref 5), (1, .int l1), (2, .int l2)] [] S (g_60_7 n l1 l2 S)
  | 0, _, _, _ => aw_none
  | n + 1, l1, l2, S => th_60_7 hd n (t_60_7 hd n) l1 l2 S
def g_60 (n : Nat) (l1 : Int32) (S : amS) : amQ := az_st ((S.1 5 6) - 1) fun x1 => g_60_7 n l1 x1 S
theorem t_60 {X : amX} {d e : Nat} {R : amS} {u : Nat → Int64} (hd : 1 ≤ d) (n : Nat)  (l1 : Int32) (S : amS) : AW X d am_m60 (wc R u) e 0 [(0, .ref 5), (1, .int l1)] [] S (g_60 n l1 S) := by
  unfold g_60
  refine aw_aload at_60_0 rfl ?_
  refine aw_getf at_60_1 gf_406 ?_
  refine aw_ic 1 at_60_4 ic_1 ?_
  refine aw_isub at_60_5 ?_
  refine aw_nameI (fun x1 => ?_)
  refine aw_istore at_60_6 (by decide) rfl rfl ?_
  exact aw_sub (al_cons rfl (al_cons rfl (al_cons rfl al_nil))) (t_60_7 (by omega) n l1 x1 S)
theorem c_60 {X : amX} {d : Nat} {R : amS} {u : Nat → Int64} (hd : 2 ≤ d) (n : Nat) (l1 : Int32) (S : amS) : CW X d 60 [.ref 5, .int l1] (wc R u) S (g_60 n l1 S) := cw_up (by omega) (fun d' h => by
  subst h
  exact cw_of rfl (by decide) (Nat.le_of_ble_eq_true rfl) rfl (fun e => t_60 (by omega) n l1 S))
/-! 62: ListDesk$Names.levelOf(I)I -/
theorem at_62_0 : am_at am_m62 0 = some (.aload 0, 1, 0) := rfl
theorem at_62_1 : am_at am_m62 1 = some (.getfield 402, 3, 18) := rfl
theorem at_62_4 : am_at am_m62 4 = some (.iload 1, 1, 0) := rfl
theorem at_62_5 : am_at am_m62 5 = some (.invokestatic 94, 3, 47) := rfl
theorem at_62_8 : am_at am_m62 8 = some (.ireturn, 1, 0) := rfl
def g_62 (l1 : Int32) (S : amS) : amQ := some (.inl (some (.int (az_rg 250 (S.1 8) l1))), S)
theorem t_62 {X : amX} {d e : Nat} {R : amS} {u : Nat → Int64} (hd : 1 ≤ d)  (l1 : Int32) (S : amS) : AW X d am_m62 (wc R u) e 0 [(0, .ref 5), (1, .int l1)] [] S (g_62 l1 S) := by
  unfold g_62
  refine aw_aload at_62_0 rfl ?_
  refine aw_getf at_62_1 gf_402 ?_
  refine aw_iload at_62_4 rfl ?_
  refine aw_pI at_62_5 rfl (cw_94 (by omega) (by decide) (fun e => ai_8) (fun e => al_8)) ?_
  exact aw_rI at_62_8 rfl
theorem c_62 {X : amX} {d : Nat} {R : amS} {u : Nat → Int64} (hd : 2 ≤ d) (l1 : Int32) (S : amS) : CW X d 62 [.ref 5, .int l1] (wc R u) S (g_62 l1 S) := cw_up (by omega) (fun d' h => by
  subst h
  exact cw_of rfl (by decide) (Nat.le_of_ble_eq_true rfl) rfl (fun e => t_62 (by omega) l1 S))
/-! 68: ListDesk$Output.has(I)Z -/
theorem at_68_0 : am_at am_m68 0 = some (.iload 1, 1, 0) := rfl
theorem at_68_1 : am_at am_m68 1 = some (.ifCond .lt 28, 3, 0) := rfl
theorem at_68_4 : am_at am_m68 4 = some (.iload 1, 1, 0) := rfl
theorem at_68_5 : am_at am_m68 5 = some (.aload 0, 1, 0) := rfl
theorem at_68_6 : am_at am_m68 6 = some (.getfield 501, 3, 15) := rfl
theorem at_68_9 : am_at am_m68 9 = some (.if_icmp .ge 28, 3, 0) := rfl
theorem at_68_12 : am_at am_m68 12 = some (.iload 1, 1, 0) := rfl
theorem at_68_13 : am_at am_m68 13 = some (.aload 0, 1, 0) := rfl
theorem at_68_14 : am_at am_m68 14 = some (.getfield 501, 3, 15) := rfl
theorem at_68_17 : am_at am_m68 17 = some (.iconst 200, 3, 2) := rfl
theorem at_68_20 : am_at am_m68 20 = some (.isub, 1, 0) := rfl
theorem at_68_21 : am_at am_m68 21 = some (.if_icmp .lt 28, 3, 0) := rfl
theorem at_68_24 : am_at am_m68 24 = some (.iconst 1, 1, 0) := rfl
theorem at_68_25 : am_at am_m68 25 = some (.goto 29, 3, 0) := rfl
theorem at_68_28 : am_at am_m68 28 = some (.iconst 0, 1, 0) := rfl
theorem at_68_29 : am_at am_m68 29 = some (.ireturn, 1, 0) := rfl
def g_68 (l1 : Int32) (S : amS) : amQ := if l1 < 0 then some (.inl (some (.int 0)), S) else if (S.1 29 1) ≤ l1 then some (.inl (some (.int 0)), S) else if l1 < ((S.1 29 1) - 200) then some (.inl (some (.int 0)), S) else some (.inl (some (.int 1)), S)
theorem t_68 {X : amX} {d e : Nat} {R : amS} {u : Nat → Int64} (hd : 0 ≤ d)  (l1 : Int32) (S : amS) : AW X d am_m68 (wc R u) e 0 [(0, .ref 29), (1, .int l1)] [] S (g_68 l1 S) := by
  unfold g_68
  refine aw_iload at_68_0 rfl ?_
  refine aw_if_lt at_68_1 ?_ ?_
  · refine aw_ic 0 at_68_28 ic_0 ?_
    exact aw_rZ at_68_29 rfl (Or.inl rfl)
  · refine aw_iload at_68_4 rfl ?_
    refine aw_aload at_68_5 rfl ?_
    refine aw_getf at_68_6 gf_501 ?_
    refine aw_icmp_ge at_68_9 ?_ ?_
    · refine aw_ic 0 at_68_28 ic_0 ?_
      exact aw_rZ at_68_29 rfl (Or.inl rfl)
    · refine aw_iload at_68_12 rfl ?_
      refine aw_aload at_68_13 rfl ?_
      refine aw_getf at_68_14 gf_501 ?_
      refine aw_ic 200 at_68_17 ic_200 ?_
      refine aw_isub at_68_20 ?_
      refine aw_icmp_lt at_68_21 ?_ ?_
      · refine aw_ic 0 at_68_28 ic_0 ?_
        exact aw_rZ at_68_29 rfl (Or.inl rfl)
      · refine aw_ic 1 at_68_24 ic_1 ?_
        refine aw_goto at_68_25 ?_
        exact aw_rZ at_68_29 rfl (Or.inr rfl)
theorem c_68 {X : amX} {d : Nat} {R : amS} {u : Nat → Int64} (hd : 1 ≤ d) (l1 : Int32) (S : amS) : CW X d 68 [.ref 29, .int l1] (wc R u) S (g_68 l1 S) := cw_up (by omega) (fun d' h => by
  subst h
  exact cw_of rfl (by decide) (Nat.le_of_ble_eq_true rfl) rfl (fun e => t_68 (by omega) l1 S))
/-! 69: ListDesk$Output.at(I)I -/
theorem at_69_0 : am_at am_m69 0 = some (.aload 0, 1, 0) := rfl
theorem at_69_1 : am_at am_m69 1 = some (.getfield 500, 3, 9) := rfl
theorem at_69_4 : am_at am_m69 4 = some (.iload 1, 1, 0) := rfl
theorem at_69_5 : am_at am_m69 5 = some (.iconst 200, 3, 2) := rfl
theorem at_69_8 : am_at am_m69 8 = some (.irem, 1, 0) := rfl
theorem at_69_9 : am_at am_m69 9 = some (.invokestatic 94, 3, 25) := rfl
theorem at_69_12 : am_at am_m69 12 = some (.ireturn, 1, 0) := rfl
def g_69 (l1 : Int32) (S : amS) : amQ := some (.inl (some (.int (az_rg 200 (S.1 30) (az_rem l1 200)))), S)
theorem t_69 {X : amX} {d e : Nat} {R : amS} {u : Nat → Int64} (hd : 1 ≤ d)  (l1 : Int32) (S : amS) : AW X d am_m69 (wc R u) e 0 [(0, .ref 29), (1, .int l1)] [] S (g_69 l1 S) := by
  unfold g_69
  refine aw_aload at_69_0 rfl ?_
  refine aw_getf at_69_1 gf_500 ?_
  refine aw_iload at_69_4 rfl ?_
  refine aw_ic 200 at_69_5 ic_200 ?_
  refine aw_irem at_69_8 (by decide) ?_
  refine aw_pI at_69_9 rfl (cw_94 (by omega) (by decide) (fun e => ai_30) (fun e => al_30)) ?_
  exact aw_rI at_69_12 rfl
theorem c_69 {X : amX} {d : Nat} {R : amS} {u : Nat → Int64} (hd : 2 ≤ d) (l1 : Int32) (S : amS) : CW X d 69 [.ref 29, .int l1] (wc R u) S (g_69 l1 S) := cw_up (by omega) (fun d' h => by
  subst h
  exact cw_of rfl (by decide) (Nat.le_of_ble_eq_true rfl) rfl (fun e => t_69 (by omega) l1 S))
/-! 83: ListDesk$Reader.forget()V -/
theorem at_83_0 : am_at am_m83 0 = some (.aload 0, 1, 0) := rfl
theorem at_83_1 : am_at am_m83 1 = some (.getfield 601, 3, 15) := rfl
theorem at_83_4 : am_at am_m83 4 = some (.iconst 8, 2, 1) := rfl
theorem at_83_6 : am_at am_m83 6 = some (.iconst 0, 1, 0) := rfl
theorem at_83_7 : am_at am_m83 7 = some (.iconst (-1), 1, 0) := rfl
theorem at_83_8 : am_at am_m83 8 = some (.invokevirtual 2, 3, 61) := rfl
theorem at_83_11 : am_at am_m83 11 = some (.pop, 1, 0) := rfl
theorem at_83_12 : am_at am_m83 12 = some (.aload 0, 1, 0) := rfl
theorem at_83_13 : am_at am_m83 13 = some (.dup, 1, 0) := rfl
theorem at_83_14 : am_at am_m83 14 = some (.getfield 604, 3, 47) := rfl
theorem at_83_17 : am_at am_m83 17 = some (.iconst 1, 1, 0) := rfl
theorem at_83_18 : am_at am_m83 18 = some (.isub, 1, 0) := rfl
theorem at_83_19 : am_at am_m83 19 = some (.putfield 604, 3, 47) := rfl
theorem at_83_22 : am_at am_m83 22 = some (.return_, 1, 0) := rfl
def g_83 (S : amS) : amQ := az_bI (g_2 8 0 ((-1)) S) fun x1 S2 => az_st (sI S2 23 4 ((S2.1 23 4) - 1)) fun S3 => some (.inl none, S3)
theorem t_83 {X : amX} {d e : Nat} {R : amS} {u : Nat → Int64} (hd : 2 ≤ d)  (S : amS) : AW X d am_m83 (wc R u) e 0 [(0, .ref 23)] [] S (g_83 S) := by
  unfold g_83
  refine aw_aload at_83_0 rfl ?_
  refine aw_getf at_83_1 gf_601 ?_
  refine aw_ic 8 at_83_4 ic_8 ?_
  refine aw_ic 0 at_83_6 ic_0 ?_
  refine aw_ic (-1) at_83_7 ic_m1 ?_
  refine aw_cI at_83_8 rfl (c_2 (by omega) _ _ _ _) (fun _ h => by cases h) rfl (fun x1 S2 => ?_)
  refine aw_popI at_83_11 ?_
  refine aw_aload at_83_12 rfl ?_
  refine aw_dupA at_83_13 ?_
  refine aw_getf at_83_14 gf_604 ?_
  refine aw_ic 1 at_83_17 ic_1 ?_
  refine aw_isub at_83_18 ?_
  refine aw_putf at_83_19 (pf_604 _) (fun S3 => ?_)
  exact aw_rV at_83_22 rfl
theorem c_83 {X : amX} {d : Nat} {R : amS} {u : Nat → Int64} (hd : 3 ≤ d) (S : amS) : CW X d 83 [.ref 23] (wc R u) S (g_83 S) := cw_up (by omega) (fun d' h => by
  subst h
  exact cw_of rfl (by decide) (Nat.le_of_ble_eq_true rfl) rfl (fun e => t_83 (by omega) S))
/-! 101: ListDesk$Tape.useUp()V -/
theorem at_101_0 : am_at am_m101 0 = some (.aload 0, 1, 0) := rfl
theorem at_101_1 : am_at am_m101 1 = some (.aload 0, 1, 0) := rfl
theorem at_101_2 : am_at am_m101 2 = some (.getfield 701, 3, 15) := rfl
theorem at_101_5 : am_at am_m101 5 = some (.putfield 702, 3, 25) := rfl
theorem at_101_8 : am_at am_m101 8 = some (.aload 0, 1, 0) := rfl
theorem at_101_9 : am_at am_m101 9 = some (.iconst 0, 1, 0) := rfl
theorem at_101_10 : am_at am_m101 10 = some (.putfield 701, 3, 15) := rfl
theorem at_101_13 : am_at am_m101 13 = some (.aload 0, 1, 0) := rfl
theorem at_101_14 : am_at am_m101 14 = some (.iconst 0, 1, 0) := rfl
theorem at_101_15 : am_at am_m101 15 = some (.putfield 703, 3, 28) := rfl
theorem at_101_18 : am_at am_m101 18 = some (.return_, 1, 0) := rfl
def g_101 (S : amS) : amQ := az_st (sI S 21 2 (S.1 21 1)) fun S1 => az_st (sI S1 21 1 0) fun S2 => az_st (sI S2 21 3 0) fun S3 => some (.inl none, S3)
theorem t_101 {X : amX} {d e : Nat} {R : amS} {u : Nat → Int64} (hd : 0 ≤ d)  (S : amS) : AW X d am_m101 (wc R u) e 0 [(0, .ref 21)] [] S (g_101 S) := by
  unfold g_101
  refine aw_aload at_101_0 rfl ?_
  refine aw_aload at_101_1 rfl ?_
  refine aw_getf at_101_2 gf_701 ?_
  refine aw_putf at_101_5 (pf_702 _) (fun S1 => ?_)
  refine aw_aload at_101_8 rfl ?_
  refine aw_ic 0 at_101_9 ic_0 ?_
  refine aw_putf at_101_10 (pf_701 _) (fun S2 => ?_)
  refine aw_aload at_101_13 rfl ?_
  refine aw_ic 0 at_101_14 ic_0 ?_
  refine aw_putf at_101_15 (pf_703 _) (fun S3 => ?_)
  exact aw_rV at_101_18 rfl
theorem c_101 {X : amX} {d : Nat} {R : amS} {u : Nat → Int64} (hd : 1 ≤ d) (S : amS) : CW X d 101 [.ref 21] (wc R u) S (g_101 S) := cw_up (by omega) (fun d' h => by
  subst h
  exact cw_of rfl (by decide) (Nat.le_of_ble_eq_true rfl) rfl (fun e => t_101 (by omega) S))
/-! 102: ListDesk$Tape.byteAt(I)I -/
theorem at_102_0 : am_at am_m102 0 = some (.iload 1, 1, 0) := rfl
theorem at_102_1 : am_at am_m102 1 = some (.ifCond .lt 30, 3, 0) := rfl
theorem at_102_4 : am_at am_m102 4 = some (.iload 1, 1, 0) := rfl
theorem at_102_5 : am_at am_m102 5 = some (.aload 0, 1, 0) := rfl
theorem at_102_6 : am_at am_m102 6 = some (.getfield 702, 3, 25) := rfl
theorem at_102_9 : am_at am_m102 9 = some (.if_icmp .ge 30, 3, 0) := rfl
theorem at_102_12 : am_at am_m102 12 = some (.iload 1, 1, 0) := rfl
theorem at_102_13 : am_at am_m102 13 = some (.aload 0, 1, 0) := rfl
theorem at_102_14 : am_at am_m102 14 = some (.getfield 700, 3, 9) := rfl
theorem at_102_17 : am_at am_m102 17 = some (.arraylength, 1, 0) := rfl
theorem at_102_18 : am_at am_m102 18 = some (.if_icmp .ge 30, 3, 0) := rfl
theorem at_102_21 : am_at am_m102 21 = some (.aload 0, 1, 0) := rfl
theorem at_102_22 : am_at am_m102 22 = some (.getfield 700, 3, 9) := rfl
theorem at_102_25 : am_at am_m102 25 = some (.iload 1, 1, 0) := rfl
theorem at_102_26 : am_at am_m102 26 = some (.iaload, 1, 0) := rfl
theorem at_102_27 : am_at am_m102 27 = some (.goto 31, 3, 0) := rfl
theorem at_102_30 : am_at am_m102 30 = some (.iconst (-1), 1, 0) := rfl
theorem at_102_31 : am_at am_m102 31 = some (.ireturn, 1, 0) := rfl
def g_102 (l1 : Int32) (S : amS) : amQ := if l1 < 0 then some (.inl (some (.int ((-1)))), S) else if (S.1 21 2) ≤ l1 then some (.inl (some (.int ((-1)))), S) else if 250 ≤ l1 then some (.inl (some (.int ((-1)))), S) else az_ck l1 250 (some (.inl (some (.int (S.1 22 l1.toNatClampNeg))), S))
theorem t_102 {X : amX} {d e : Nat} {R : amS} {u : Nat → Int64} (hd : 0 ≤ d)  (l1 : Int32) (S : amS) : AW X d am_m102 (wc R u) e 0 [(0, .ref 21), (1, .int l1)] [] S (g_102 l1 S) := by
  unfold g_102
  refine aw_iload at_102_0 rfl ?_
  refine aw_if_lt at_102_1 ?_ ?_
  · refine aw_ic (-1) at_102_30 ic_m1 ?_
    exact aw_rI at_102_31 rfl
  · refine aw_iload at_102_4 rfl ?_
    refine aw_aload at_102_5 rfl ?_
    refine aw_getf at_102_6 gf_702 ?_
    refine aw_icmp_ge at_102_9 ?_ ?_
    · refine aw_ic (-1) at_102_30 ic_m1 ?_
      exact aw_rI at_102_31 rfl
    · refine aw_iload at_102_12 rfl ?_
      refine aw_aload at_102_13 rfl ?_
      refine aw_getf at_102_14 gf_700 ?_
      refine aw_alen 250 at_102_17 al_22 (by decide) ?_
      refine aw_icmp_ge at_102_18 ?_ ?_
      · refine aw_ic (-1) at_102_30 ic_m1 ?_
        exact aw_rI at_102_31 rfl
      · refine aw_aload at_102_21 rfl ?_
        refine aw_getf at_102_22 gf_700 ?_
        refine aw_iload at_102_25 rfl ?_
        refine aw_iald at_102_26 ai_22 ?_
        refine aw_goto at_102_27 ?_
        exact aw_rI at_102_31 rfl
theorem c_102 {X : amX} {d : Nat} {R : amS} {u : Nat → Int64} (hd : 1 ≤ d) (l1 : Int32) (S : amS) : CW X d 102 [.ref 21, .int l1] (wc R u) S (g_102 l1 S) := cw_up (by omega) (fun d' h => by
  subst h
  exact cw_of rfl (by decide) (Nat.le_of_ble_eq_true rfl) rfl (fun e => t_102 (by omega) l1 S))
/-! 103: ListDesk$Tape.skipBlanks()I -/
theorem at_103_0 : am_at am_m103 0 = some (.aload 0, 1, 0) := rfl
theorem at_103_1 : am_at am_m103 1 = some (.getfield 703, 3, 28) := rfl
theorem at_103_4 : am_at am_m103 4 = some (.aload 0, 1, 0) := rfl
theorem at_103_5 : am_at am_m103 5 = some (.getfield 702, 3, 25) := rfl
theorem at_103_8 : am_at am_m103 8 = some (.if_icmp .ge 37, 3, 0) := rfl
theorem at_103_11 : am_at am_m103 11 = some (.aload 0, 1, 0) := rfl
theorem at_103_12 : am_at am_m103 12 = some (.aload 0, 1, 0) := rfl
theorem at_103_13 : am_at am_m103 13 = some (.getfield 703, 3, 28) := rfl
theorem at_103_16 : am_at am_m103 16 = some (.invokevirtual 102, 3, 31) := rfl
theorem at_103_19 : am_at am_m103 19 = some (.iconst 32, 2, 1) := rfl
theorem at_103_21 : am_at am_m103 21 = some (.if_icmp .ne 37, 3, 0) := rfl
theorem at_103_24 : am_at am_m103 24 = some (.aload 0, 1, 0) := rfl
theorem at_103_25 : am_at am_m103 25 = some (.dup, 1, 0) := rfl
theorem at_103_26 : am_at am_m103 26 = some (.getfield 703, 3, 28) := rfl
theorem at_103_29 : am_at am_m103 29 = some (.iconst 1, 1, 0) := rfl
theorem at_103_30 : am_at am_m103 30 = some (.iadd, 1, 0) := rfl
theorem at_103_31 : am_at am_m103 31 = some (.putfield 703, 3, 28) := rfl
theorem at_103_34 : am_at am_m103 34 = some (.goto 0, 3, 0) := rfl
theorem at_103_37 : am_at am_m103 37 = some (.aload 0, 1, 0) := rfl
theorem at_103_38 : am_at am_m103 38 = some (.getfield 703, 3, 28) := rfl
theorem at_103_41 : am_at am_m103 41 = some (.ireturn, 1, 0) := rfl
def g_103_37 (n : Nat) (S : amS) : amQ := some (.inl (some (.int (S.1 21 3))), S)
theorem t_103_37 {X : amX} {d e : Nat} {R : amS} {u : Nat → Int64} (hd : 1 ≤ d) (n : Nat)  (S : amS) : AW X d am_m103 (wc R u) e 37 [(0, .ref 21)] [] S (g_103_37 n S) := by
  unfold g_103_37
  refine aw_aload at_103_37 rfl ?_
  refine aw_getf at_103_38 gf_703 ?_
  exact aw_rI at_103_41 rfl
def h_103 (n : Nat) (H0 : amS → amQ) (S : amS) : amQ := if (S.1 21 2) ≤ (S.1 21 3) then g_103_37 n S else az_bI (g_102 (S.1 21 3) S) fun x1 S2 => if x1 = 32 then az_st (sI S2 21 3 ((S2.1 21 3) + 1)) fun S3 => H0 S3 else g_103_37 n S2
def g_103 : Nat → amS → amQ
  | 0 => fun _ => none
  | n + 1 => h_103 n (g_103 n)
theorem th_103 {X : amX} {d e : Nat} {R : amS} {u : Nat → Int64} {H0 : amS → amQ} (hd : 1 ≤ d) (n : Nat) (hH0 : ∀ (S : amS), AW X d am_m103 (wc R u) e 0 [(0, .ref 21)] [] S (H0 S))  (S : amS) : AW X d am_m103 (wc R u) e 0 [(0, .ref 21)] [] S (h_103 n H0 S) := by
  unfold h_103
  refine aw_aload at_103_0 rfl ?_
  refine aw_getf at_103_1 gf_703 ?_
  refine aw_aload at_103_4 rfl ?_
  refine aw_getf at_103_5 gf_702 ?_
  refine aw_icmp_ge at_103_8 ?_ ?_
  · exact aw_sub (al_cons rfl al_nil) (t_103_37 (by omega) n S)
  · refine aw_aload at_103_11 rfl ?_
    refine aw_aload at_103_12 rfl ?_
    refine aw_getf at_103_13 gf_703 ?_
    refine aw_cI at_103_16 rfl (c_102 (by omega) _ _) (fun _ h => by cases h) rfl (fun x1 S2 => ?_)
    refine aw_ic 32 at_103_19 ic_32 ?_
    refine aw_icmp_ne at_103_21 ?_ ?_
    · exact aw_sub (al_cons rfl al_nil) (t_103_37 (by omega) n S2)
    · refine aw_aload at_103_24 rfl ?_
      refine aw_dupA at_103_25 ?_
      refine aw_getf at_103_26 gf_703 ?_
      refine aw_ic 1 at_103_29 ic_1 ?_
      refine aw_iadd at_103_30 ?_
      refine aw_putf at_103_31 (pf_703 _) (fun S3 => ?_)
      refine aw_goto at_103_34 ?_
      exact aw_sub (al_cons rfl al_nil) (hH0 S3)
theorem t_103 {X : amX} {d e : Nat} {R : amS} {u : Nat → Int64} (hd : 1 ≤ d) : ∀ (n : Nat)  (S : amS), AW X d am_m103 (wc R u) e 0 [(0, .ref 21)] [] S (g_103 n S)
  | 0, _ => aw_none
  | n + 1, S => th_103 hd n (t_103 hd n) S
theorem c_103 {X : amX} {d : Nat} {R : amS} {u : Nat → Int64} (hd : 2 ≤ d) (n : Nat) (S : amS) : CW X d 103 [.ref 21] (wc R u) S (g_103 n S) := cw_up (by omega) (fun d' h => by
  subst h
  exact cw_of rfl (by decide) (Nat.le_of_ble_eq_true rfl) rfl (fun e => t_103 (by omega) n S))
/-! 104: ListDesk$Tape.nextByte()I -/
theorem at_104_0 : am_at am_m104 0 = some (.aload 0, 1, 0) := rfl
theorem at_104_1 : am_at am_m104 1 = some (.aload 0, 1, 0) := rfl
theorem at_104_2 : am_at am_m104 2 = some (.invokevirtual 103, 3, 35) := rfl
theorem at_104_5 : am_at am_m104 5 = some (.invokevirtual 102, 3, 31) := rfl
theorem at_104_8 : am_at am_m104 8 = some (.ireturn, 1, 0) := rfl
def g_104 (n : Nat) (S : amS) : amQ := az_bI (g_103 n S) fun x1 S2 => az_bI (g_102 x1 S2) fun x3 S4 => some (.inl (some (.int x3)), S4)
theorem t_104 {X : amX} {d e : Nat} {R : amS} {u : Nat → Int64} (hd : 2 ≤ d) (n : Nat)  (S : amS) : AW X d am_m104 (wc R u) e 0 [(0, .ref 21)] [] S (g_104 n S) := by
  unfold g_104
  refine aw_aload at_104_0 rfl ?_
  refine aw_aload at_104_1 rfl ?_
  refine aw_cI at_104_2 rfl (c_103 (by omega) n _) (fun _ h => by cases h) rfl (fun x1 S2 => ?_)
  refine aw_cI at_104_5 rfl (c_102 (by omega) _ _) (fun _ h => by cases h) rfl (fun x3 S4 => ?_)
  exact aw_rI at_104_8 rfl
theorem c_104 {X : amX} {d : Nat} {R : amS} {u : Nat → Int64} (hd : 3 ≤ d) (n : Nat) (S : amS) : CW X d 104 [.ref 21] (wc R u) S (g_104 n S) := cw_up (by omega) (fun d' h => by
  subst h
  exact cw_of rfl (by decide) (Nat.le_of_ble_eq_true rfl) rfl (fun e => t_104 (by omega) n S))
/-! 105: ListDesk$Tape.isAtEnd()Z -/
theorem at_105_0 : am_at am_m105 0 = some (.aload 0, 1, 0) := rfl
theorem at_105_1 : am_at am_m105 1 = some (.invokevirtual 104, 3, 39) := rfl
theorem at_105_4 : am_at am_m105 4 = some (.iconst (-1), 1, 0) := rfl
theorem at_105_5 : am_at am_m105 5 = some (.if_icmp .ne 12, 3, 0) := rfl
theorem at_105_8 : am_at am_m105 8 = some (.iconst 1, 1, 0) := rfl
theorem at_105_9 : am_at am_m105 9 = some (.goto 13, 3, 0) := rfl
theorem at_105_12 : am_at am_m105 12 = some (.iconst 0, 1, 0) := rfl
theorem at_105_13 : am_at am_m105 13 = some (.ireturn, 1, 0) := rfl
def g_105 (n : Nat) (S : amS) : amQ := az_bI (g_104 n S) fun x1 S2 => if x1 = ((-1)) then some (.inl (some (.int 1)), S2) else some (.inl (some (.int 0)), S2)
theorem t_105 {X : amX} {d e : Nat} {R : amS} {u : Nat → Int64} (hd : 3 ≤ d) (n : Nat)  (S : amS) : AW X d am_m105 (wc R u) e 0 [(0, .ref 21)] [] S (g_105 n S) := by
  unfold g_105
  refine aw_aload at_105_0 rfl ?_
  refine aw_cI at_105_1 rfl (c_104 (by omega) n _) (fun _ h => by cases h) rfl (fun x1 S2 => ?_)
  refine aw_ic (-1) at_105_4 ic_m1 ?_
  refine aw_icmp_ne at_105_5 ?_ ?_
  · refine aw_ic 0 at_105_12 ic_0 ?_
    exact aw_rZ at_105_13 rfl (Or.inl rfl)
  · refine aw_ic 1 at_105_8 ic_1 ?_
    refine aw_goto at_105_9 ?_
    exact aw_rZ at_105_13 rfl (Or.inr rfl)
theorem c_105 {X : amX} {d : Nat} {R : amS} {u : Nat → Int64} (hd : 4 ≤ d) (n : Nat) (S : amS) : CW X d 105 [.ref 21] (wc R u) S (g_105 n S) := cw_up (by omega) (fun d' h => by
  subst h
  exact cw_of rfl (by decide) (Nat.le_of_ble_eq_true rfl) rfl (fun e => t_105 (by omega) n S))
/-! 71: ListDesk$Reader.readProgram()V -/
theorem at_71_0 : am_at am_m71 0 = some (.aload 0, 1, 0) := rfl
theorem at_71_1 : am_at am_m71 1 = some (.getfield 600, 3, 9) := rfl
theorem at_71_4 : am_at am_m71 4 = some (.invokevirtual 101, 3, 31) := rfl
theorem at_71_7 : am_at am_m71 7 = some (.aload 0, 1, 0) := rfl
theorem at_71_8 : am_at am_m71 8 = some (.getfield 601, 3, 15) := rfl
theorem at_71_11 : am_at am_m71 11 = some (.invokevirtual 1, 3, 36) := rfl
theorem at_71_14 : am_at am_m71 14 = some (.aload 0, 1, 0) := rfl
theorem at_71_15 : am_at am_m71 15 = some (.getfield 602, 3, 19) := rfl
theorem at_71_18 : am_at am_m71 18 = some (.invokevirtual 55, 3, 41) := rfl
theorem at_71_21 : am_at am_m71 21 = some (.aload 0, 1, 0) := rfl
theorem at_71_22 : am_at am_m71 22 = some (.getfield 603, 3, 23) := rfl
theorem at_71_25 : am_at am_m71 25 = some (.invokevirtual 8, 3, 44) := rfl
theorem at_71_28 : am_at am_m71 28 = some (.aload 0, 1, 0) := rfl
theorem at_71_29 : am_at am_m71 29 = some (.iconst 0, 1, 0) := rfl
theorem at_71_30 : am_at am_m71 30 = some (.putfield 604, 3, 47) := rfl
theorem at_71_33 : am_at am_m71 33 = some (.aload 0, 1, 0) := rfl
theorem at_71_34 : am_at am_m71 34 = some (.iconst (-1), 1, 0) := rfl
theorem at_71_35 : am_at am_m71 35 = some (.putfield 605, 3, 27) := rfl
theorem at_71_38 : am_at am_m71 38 = some (.aload 0, 1, 0) := rfl
theorem at_71_39 : am_at am_m71 39 = some (.iconst 0, 1, 0) := rfl
theorem at_71_40 : am_at am_m71 40 = some (.invokevirtual 73, 3, 50) := rfl
theorem at_71_43 : am_at am_m71 43 = some (.iconst 0, 1, 0) := rfl
theorem at_71_44 : am_at am_m71 44 = some (.istore 1, 1, 0) := rfl
theorem at_71_45 : am_at am_m71 45 = some (.iload 1, 1, 0) := rfl
theorem at_71_46 : am_at am_m71 46 = some (.iconst 250, 3, 2) := rfl
theorem at_71_49 : am_at am_m71 49 = some (.if_icmp .ge 77, 3, 0) := rfl
theorem at_71_52 : am_at am_m71 52 = some (.aload 0, 1, 0) := rfl
theorem at_71_53 : am_at am_m71 53 = some (.getfield 600, 3, 9) := rfl
theorem at_71_56 : am_at am_m71 56 = some (.invokevirtual 105, 3, 54) := rfl
theorem at_71_59 : am_at am_m71 59 = some (.ifCond .ne 77, 3, 0) := rfl
theorem at_71_62 : am_at am_m71 62 = some (.aload 0, 1, 0) := rfl
theorem at_71_63 : am_at am_m71 63 = some (.invokevirtual 83, 3, 58) := rfl
theorem at_71_66 : am_at am_m71 66 = some (.aload 0, 1, 0) := rfl
theorem at_71_67 : am_at am_m71 67 = some (.iconst 0, 1, 0) := rfl
theorem at_71_68 : am_at am_m71 68 = some (.invokevirtual 73, 3, 50) := rfl
theorem at_71_71 : am_at am_m71 71 = some (.iinc 1 1, 3, 0) := rfl
theorem at_71_74 : am_at am_m71 74 = some (.goto 45, 3, 0) := rfl
theorem at_71_77 : am_at am_m71 77 = some (.aload 0, 1, 0) := rfl
theorem at_71_78 : am_at am_m71 78 = some (.getfield 601, 3, 15) := rfl
theorem at_71_81 : am_at am_m71 81 = some (.iconst 7, 2, 1) := rfl
theorem at_71_83 : am_at am_m71 83 = some (.iconst 0, 1, 0) := rfl
theorem at_71_84 : am_at am_m71 84 = some (.iconst (-1), 1, 0) := rfl
theorem at_71_85 : am_at am_m71 85 = some (.invokevirtual 2, 3, 61) := rfl
theorem at_71_88 : am_at am_m71 88 = some (.pop, 1, 0) := rfl
theorem at_71_89 : am_at am_m71 89 = some (.aload 0, 1, 0) := rfl
theorem at_71_90 : am_at am_m71 90 = some (.getfield 601, 3, 15) := rfl
theorem at_71_93 : am_at am_m71 93 = some (.invokevirtual 5, 3, 65) := rfl
theorem at_71_96 : am_at am_m71 96 = some (.return_, 1, 0) := rfl
def g_71_77 (E : Int32 → amS → amQ) (n : Nat) (S : amS) : amQ := az_bI (g_2 7 0 ((-1)) S) fun x1 S2 => az_bV (g_5 n S2) fun S3 => some (.inl none, S3)
theorem t_71_77 {X : amX} {d dE e : Nat} {R : amS} {u : Nat → Int64} {E : Int32 → amS → amQ} (hE : ∀ dep S d', dE ≤ d' → CW X d' 73 [.ref 23, .int dep] (wc R u) S (E dep S)) (hd : dE + 4 ≤ d) (n : Nat)  (S : amS) : AW X d am_m71 (wc R u) e 77 [(0, .ref 23)] [] S (g_71_77 E n S) := by
  unfold g_71_77
  refine aw_aload at_71_77 rfl ?_
  refine aw_getf at_71_78 gf_601 ?_
  refine aw_ic 7 at_71_81 ic_7 ?_
  refine aw_ic 0 at_71_83 ic_0 ?_
  refine aw_ic (-1) at_71_84 ic_m1 ?_
  refine aw_cI at_71_85 rfl (c_2 (by omega) _ _ _ _) (fun _ h => by cases h) rfl (fun x1 S2 => ?_)
  refine aw_popI at_71_88 ?_
  refine aw_aload at_71_89 rfl ?_
  refine aw_getf at_71_90 gf_601 ?_
  refine aw_cV at_71_93 rfl (c_5 (by omega) n _) (fun _ h => by cases h) rfl (fun S3 => ?_)
  exact aw_rV at_71_96 rfl
def h_71_45 (E : Int32 → amS → amQ) (n : Nat) (H45 : Int32 → amS → amQ) (l1 : Int32) (S : amS) : amQ := if 250 ≤ l1 then g_71_77 E n S else az_bI (g_105 n S) fun x1 S2 => if x1 = 0 then az_bV (g_83 S2) fun S3 => az_bV (E 0 S3) fun S4 => H45 (l1 + 1) S4 else g_71_77 E n S2
def g_71_45 (E : Int32 → amS → amQ) : Nat → Int32 → amS → amQ
  | 0 => fun _ _ => none
  | n + 1 => h_71_45 E n (g_71_45 E n)
theorem th_71_45 {X : amX} {d dE e : Nat} {R : amS} {u : Nat → Int64} {E : Int32 → amS → amQ} {H45 : Int32 → amS → amQ} (hE : ∀ dep S d', dE ≤ d' → CW X d' 73 [.ref 23, .int dep] (wc R u) S (E dep S)) (hd : dE + 4 ≤ d) (n : Nat) (hH45 : ∀ (l1 : Int32) (S : amS), AW X d am_m71 (wc R u) e 45 [(0, .ref 23), (1, .int l1)] [] S (H45 l1 S)) (l1 : Int32)  (S : amS) : AW X d am_m71 (wc R u) e 45 [(0, .ref 23), (1, .int l1)] [] S (h_71_45 E n H45 l1 S) := by
  unfold h_71_45
  refine aw_iload at_71_45 rfl ?_
  refine aw_ic 250 at_71_46 ic_250 ?_
  refine aw_icmp_ge at_71_49 ?_ ?_
  · exact aw_sub (al_cons rfl al_nil) (t_71_77 hE (by omega) n S)
  · refine aw_aload at_71_52 rfl ?_
    refine aw_getf at_71_53 gf_600 ?_
    refine aw_cI at_71_56 rfl (c_105 (by omega) n _) (fun _ h => by cases h) rfl (fun x1 S2 => ?_)
    refine aw_if_ne at_71_59 ?_ ?_
    · exact aw_sub (al_cons rfl al_nil) (t_71_77 hE (by omega) n S2)
    · refine aw_aload at_71_62 rfl ?_
      refine aw_cV at_71_63 rfl (c_83 (by omega) _) (fun _ h => by cases h) rfl (fun S3 => ?_)
      refine aw_aload at_71_66 rfl ?_
      refine aw_ic 0 at_71_67 ic_0 ?_
      refine aw_cV at_71_68 rfl (hE _ _ _ (by omega)) (fun _ h => by cases h) rfl (fun S4 => ?_)
      refine aw_iinc at_71_71 rfl (by decide) rfl ic_1 rfl ?_
      refine aw_goto at_71_74 ?_
      exact aw_sub (al_cons rfl (al_cons rfl al_nil)) (hH45 (l1 + 1) S4)
theorem t_71_45 {X : amX} {d dE e : Nat} {R : amS} {u : Nat → Int64} {E : Int32 → amS → amQ} (hE : ∀ dep S d', dE ≤ d' → CW X d' 73 [.ref 23, .int dep] (wc R u) S (E dep S)) (hd : dE + 4 ≤ d) : ∀ (n : Nat)  (l1 : Int32) (S : amS), AW X d am_m71 (wc R u) e 45 [(0, .ref 23), (1, .int l1)] [] S (g_71_45 E n l1 S)
  | 0, _, _ => aw_none
  | n + 1, l1, S => th_71_45 hE hd n (t_71_45 hE hd n) l1 S
def g_71 (E : Int32 → amS → amQ) (n : Nat) (S : amS) : amQ := az_bV (g_101 S) fun S1 => az_bV (g_1 S1) fun S2 => az_bV (g_55 S2) fun S3 => az_bV (g_8 S3) fun S4 => az_st (sI S4 23 4 0) fun S5 => az_st (sI S5 23 5 ((-1))) fun S6 => az_bV (E 0 S6) fun S7 => g_71_45 E n 0 S7
theorem t_71 {X : amX} {d dE e : Nat} {R : amS} {u : Nat → Int64} {E : Int32 → amS → amQ} (hE : ∀ dep S d', dE ≤ d' → CW X d' 73 [.ref 23, .int dep] (wc R u) S (E dep S)) (hd : dE + 4 ≤ d) (n : Nat)  (S : amS) : AW X d am_m71 (wc R u) e 0 [(0, .ref 23)] [] S (g_71 E n S) := by
  unfold g_71
  refine aw_aload at_71_0 rfl ?_
  refine aw_getf at_71_1 gf_600 ?_
  refine aw_cV at_71_4 rfl (c_101 (by omega) _) (fun _ h => by cases h) rfl (fun S1 => ?_)
  refine aw_aload at_71_7 rfl ?_
  refine aw_getf at_71_8 gf_601 ?_
  refine aw_cV at_71_11 rfl (c_1 (by omega) _) (fun _ h => by cases h) rfl (fun S2 => ?_)
  refine aw_aload at_71_14 rfl ?_
  refine aw_getf at_71_15 gf_602 ?_
  refine aw_cV at_71_18 rfl (c_55 (by omega) _) (fun _ h => by cases h) rfl (fun S3 => ?_)
  refine aw_aload at_71_21 rfl ?_
  refine aw_getf at_71_22 gf_603 ?_
  refine aw_cV at_71_25 rfl (c_8 (by omega) _) (fun _ h => by cases h) rfl (fun S4 => ?_)
  refine aw_aload at_71_28 rfl ?_
  refine aw_ic 0 at_71_29 ic_0 ?_
  refine aw_putf at_71_30 (pf_604 _) (fun S5 => ?_)
  refine aw_aload at_71_33 rfl ?_
  refine aw_ic (-1) at_71_34 ic_m1 ?_
  refine aw_putf at_71_35 (pf_605 _) (fun S6 => ?_)
  refine aw_aload at_71_38 rfl ?_
  refine aw_ic 0 at_71_39 ic_0 ?_
  refine aw_cV at_71_40 rfl (hE _ _ _ (by omega)) (fun _ h => by cases h) rfl (fun S7 => ?_)
  refine aw_ic 0 at_71_43 ic_0 ?_
  refine aw_istore at_71_44 (by decide) rfl rfl ?_
  exact aw_sub (al_cons rfl (al_cons rfl al_nil)) (t_71_45 hE (by omega) n 0 S7)
theorem c_71 {X : amX} {d dE : Nat} {R : amS} {u : Nat → Int64} {E : Int32 → amS → amQ} (hE : ∀ dep S d', dE ≤ d' → CW X d' 73 [.ref 23, .int dep] (wc R u) S (E dep S)) (hd : dE + 5 ≤ d) (n : Nat) (S : amS) : CW X d 71 [.ref 23] (wc R u) S (g_71 E n S) := cw_up (by omega) (fun d' h => by
  subst h
  exact cw_of rfl (by decide) (Nat.le_of_ble_eq_true rfl) rfl (fun e => t_71 hE (by omega) n S))
/-! 72: ListDesk$Reader.refuse(I)V -/
theorem at_72_0 : am_at am_m72 0 = some (.aload 0, 1, 0) := rfl
theorem at_72_1 : am_at am_m72 1 = some (.iload 1, 1, 0) := rfl
theorem at_72_2 : am_at am_m72 2 = some (.putfield 605, 3, 27) := rfl
theorem at_72_5 : am_at am_m72 5 = some (.new 1000, 3, 0) := rfl
def g_72 (l1 : Int32) (S : amS) : amQ := az_st (sI S 23 5 l1) fun S1 => some (.inr 0, S1)
theorem t_72 {X : amX} {d e : Nat} {R : amS} {u : Nat → Int64} (hd : 0 ≤ d)  (l1 : Int32) (S : amS) : AW X d am_m72 (wc R u) e 0 [(0, .ref 23), (1, .int l1)] [] S (g_72 l1 S) := by
  unfold g_72
  refine aw_aload at_72_0 rfl ?_
  refine aw_iload at_72_1 rfl ?_
  refine aw_putf at_72_2 (pf_605 _) (fun S1 => ?_)
  exact aw_thr at_72_5 rfl rfl wc_ex
theorem c_72 {X : amX} {d : Nat} {R : amS} {u : Nat → Int64} (hd : 1 ≤ d) (l1 : Int32) (S : amS) : CW X d 72 [.ref 23, .int l1] (wc R u) S (g_72 l1 S) := cw_up (by omega) (fun d' h => by
  subst h
  exact cw_of rfl (by decide) (Nat.le_of_ble_eq_true rfl) rfl (fun e => t_72 (by omega) l1 S))
/-! 74: ListDesk$Reader.value(III)V -/
theorem at_74_0 : am_at am_m74 0 = some (.aload 0, 1, 0) := rfl
theorem at_74_1 : am_at am_m74 1 = some (.getfield 601, 3, 15) := rfl
theorem at_74_4 : am_at am_m74 4 = some (.iload 1, 1, 0) := rfl
theorem at_74_5 : am_at am_m74 5 = some (.iload 2, 1, 0) := rfl
theorem at_74_6 : am_at am_m74 6 = some (.iload 3, 1, 0) := rfl
theorem at_74_7 : am_at am_m74 7 = some (.invokevirtual 2, 3, 61) := rfl
theorem at_74_10 : am_at am_m74 10 = some (.pop, 1, 0) := rfl
theorem at_74_11 : am_at am_m74 11 = some (.aload 0, 1, 0) := rfl
theorem at_74_12 : am_at am_m74 12 = some (.dup, 1, 0) := rfl
theorem at_74_13 : am_at am_m74 13 = some (.getfield 604, 3, 47) := rfl
theorem at_74_16 : am_at am_m74 16 = some (.iconst 1, 1, 0) := rfl
theorem at_74_17 : am_at am_m74 17 = some (.iadd, 1, 0) := rfl
theorem at_74_18 : am_at am_m74 18 = some (.putfield 604, 3, 47) := rfl
theorem at_74_21 : am_at am_m74 21 = some (.return_, 1, 0) := rfl
def g_74 (l1 : Int32) (l2 : Int32) (l3 : Int32) (S : amS) : amQ := az_bI (g_2 l1 l2 l3 S) fun x1 S2 => az_st (sI S2 23 4 ((S2.1 23 4) + 1)) fun S3 => some (.inl none, S3)
theorem t_74 {X : amX} {d e : Nat} {R : amS} {u : Nat → Int64} (hd : 2 ≤ d)  (l1 : Int32) (l2 : Int32) (l3 : Int32) (S : amS) : AW X d am_m74 (wc R u) e 0 [(0, .ref 23), (1, .int l1), (2, .int l2), (3, .int l3)] [] S (g_74 l1 l2 l3 S) := by
  unfold g_74
  refine aw_aload at_74_0 rfl ?_
  refine aw_getf at_74_1 gf_601 ?_
  refine aw_iload at_74_4 rfl ?_
  refine aw_iload at_74_5 rfl ?_
  refine aw_iload at_74_6 rfl ?_
  refine aw_cI at_74_7 rfl (c_2 (by omega) _ _ _ _) (fun _ h => by cases h) rfl (fun x1 S2 => ?_)
  refine aw_popI at_74_10 ?_
  refine aw_aload at_74_11 rfl ?_
  refine aw_dupA at_74_12 ?_
  refine aw_getf at_74_13 gf_604 ?_
  refine aw_ic 1 at_74_16 ic_1 ?_
  refine aw_iadd at_74_17 ?_
  refine aw_putf at_74_18 (pf_604 _) (fun S3 => ?_)
  exact aw_rV at_74_21 rfl
theorem c_74 {X : amX} {d : Nat} {R : amS} {u : Nat → Int64} (hd : 3 ≤ d) (l1 : Int32) (l2 : Int32) (l3 : Int32) (S : amS) : CW X d 74 [.ref 23, .int l1, .int l2, .int l3] (wc R u) S (g_74 l1 l2 l3 S) := cw_up (by omega) (fun d' h => by
  subst h
  exact cw_of rfl (by decide) (Nat.le_of_ble_eq_true rfl) rfl (fun e => t_74 (by omega) l1 l2 l3 S))
/-! 109: ListDesk$Tape.endsWord(I)Z -/
theorem at_109_0 : am_at am_m109 0 = some (.iload 0, 1, 0) := rfl
theorem at_109_1 : am_at am_m109 1 = some (.iconst (-1), 1, 0) := rfl
theorem at_109_2 : am_at am_m109 2 = some (.if_icmp .eq 23, 3, 0) := rfl
theorem at_109_5 : am_at am_m109 5 = some (.iload 0, 1, 0) := rfl
theorem at_109_6 : am_at am_m109 6 = some (.iconst 32, 2, 1) := rfl
theorem at_109_8 : am_at am_m109 8 = some (.if_icmp .eq 23, 3, 0) := rfl
theorem at_109_11 : am_at am_m109 11 = some (.iload 0, 1, 0) := rfl
theorem at_109_12 : am_at am_m109 12 = some (.iconst 40, 2, 1) := rfl
theorem at_109_14 : am_at am_m109 14 = some (.if_icmp .eq 23, 3, 0) := rfl
theorem at_109_17 : am_at am_m109 17 = some (.iload 0, 1, 0) := rfl
theorem at_109_18 : am_at am_m109 18 = some (.iconst 41, 2, 1) := rfl
theorem at_109_20 : am_at am_m109 20 = some (.if_icmp .ne 27, 3, 0) := rfl
theorem at_109_23 : am_at am_m109 23 = some (.iconst 1, 1, 0) := rfl
theorem at_109_24 : am_at am_m109 24 = some (.goto 28, 3, 0) := rfl
theorem at_109_27 : am_at am_m109 27 = some (.iconst 0, 1, 0) := rfl
theorem at_109_28 : am_at am_m109 28 = some (.ireturn, 1, 0) := rfl
def g_109 (l0 : Int32) (S : amS) : amQ := if l0 = ((-1)) then some (.inl (some (.int 1)), S) else if l0 = 32 then some (.inl (some (.int 1)), S) else if l0 = 40 then some (.inl (some (.int 1)), S) else if l0 = 41 then some (.inl (some (.int 1)), S) else some (.inl (some (.int 0)), S)
theorem t_109 {X : amX} {d e : Nat} {R : amS} {u : Nat → Int64} (hd : 0 ≤ d)  (l0 : Int32) (S : amS) : AW X d am_m109 (wc R u) e 0 [(0, .int l0)] [] S (g_109 l0 S) := by
  unfold g_109
  refine aw_iload at_109_0 rfl ?_
  refine aw_ic (-1) at_109_1 ic_m1 ?_
  refine aw_icmp_eq at_109_2 ?_ ?_
  · refine aw_ic 1 at_109_23 ic_1 ?_
    refine aw_goto at_109_24 ?_
    exact aw_rZ at_109_28 rfl (Or.inr rfl)
  · refine aw_iload at_109_5 rfl ?_
    refine aw_ic 32 at_109_6 ic_32 ?_
    refine aw_icmp_eq at_109_8 ?_ ?_
    · refine aw_ic 1 at_109_23 ic_1 ?_
      refine aw_goto at_109_24 ?_
      exact aw_rZ at_109_28 rfl (Or.inr rfl)
    · refine aw_iload at_109_11 rfl ?_
      refine aw_ic 40 at_109_12 ic_40 ?_
      refine aw_icmp_eq at_109_14 ?_ ?_
      · refine aw_ic 1 at_109_23 ic_1 ?_
        refine aw_goto at_109_24 ?_
        exact aw_rZ at_109_28 rfl (Or.inr rfl)
      · refine aw_iload at_109_17 rfl ?_
        refine aw_ic 41 at_109_18 ic_41 ?_
        refine aw_icmp_ne at_109_20 ?_ ?_
        · refine aw_ic 0 at_109_27 ic_0 ?_
          exact aw_rZ at_109_28 rfl (Or.inl rfl)
        · refine aw_ic 1 at_109_23 ic_1 ?_
          refine aw_goto at_109_24 ?_
          exact aw_rZ at_109_28 rfl (Or.inr rfl)
theorem c_109 {X : amX} {d : Nat} {R : amS} {u : Nat → Int64} (hd : 1 ≤ d) (l0 : Int32) (S : amS) : CW X d 109 [.int l0] (wc R u) S (g_109 l0 S) := cw_up (by omega) (fun d' h => by
  subst h
  exact cw_of rfl (by decide) (Nat.le_of_ble_eq_true rfl) rfl (fun e => t_109 (by omega) l0 S))
/-! 110: ListDesk$Tape.isDigit(I)Z -/
theorem at_110_0 : am_at am_m110 0 = some (.iload 0, 1, 0) := rfl
theorem at_110_1 : am_at am_m110 1 = some (.iconst 48, 2, 1) := rfl
theorem at_110_3 : am_at am_m110 3 = some (.if_icmp .lt 16, 3, 0) := rfl
theorem at_110_6 : am_at am_m110 6 = some (.iload 0, 1, 0) := rfl
theorem at_110_7 : am_at am_m110 7 = some (.iconst 57, 2, 1) := rfl
theorem at_110_9 : am_at am_m110 9 = some (.if_icmp .gt 16, 3, 0) := rfl
theorem at_110_12 : am_at am_m110 12 = some (.iconst 1, 1, 0) := rfl
theorem at_110_13 : am_at am_m110 13 = some (.goto 17, 3, 0) := rfl
theorem at_110_16 : am_at am_m110 16 = some (.iconst 0, 1, 0) := rfl
theorem at_110_17 : am_at am_m110 17 = some (.ireturn, 1, 0) := rfl
def g_110 (l0 : Int32) (S : amS) : amQ := if l0 < 48 then some (.inl (some (.int 0)), S) else if 57 < l0 then some (.inl (some (.int 0)), S) else some (.inl (some (.int 1)), S)
theorem t_110 {X : amX} {d e : Nat} {R : amS} {u : Nat → Int64} (hd : 0 ≤ d)  (l0 : Int32) (S : amS) : AW X d am_m110 (wc R u) e 0 [(0, .int l0)] [] S (g_110 l0 S) := by
  unfold g_110
  refine aw_iload at_110_0 rfl ?_
  refine aw_ic 48 at_110_1 ic_48 ?_
  refine aw_icmp_lt at_110_3 ?_ ?_
  · refine aw_ic 0 at_110_16 ic_0 ?_
    exact aw_rZ at_110_17 rfl (Or.inl rfl)
  · refine aw_iload at_110_6 rfl ?_
    refine aw_ic 57 at_110_7 ic_57 ?_
    refine aw_icmp_gt at_110_9 ?_ ?_
    · refine aw_ic 0 at_110_16 ic_0 ?_
      exact aw_rZ at_110_17 rfl (Or.inl rfl)
    · refine aw_ic 1 at_110_12 ic_1 ?_
      refine aw_goto at_110_13 ?_
      exact aw_rZ at_110_17 rfl (Or.inr rfl)
theorem c_110 {X : amX} {d : Nat} {R : amS} {u : Nat → Int64} (hd : 1 ≤ d) (l0 : Int32) (S : amS) : CW X d 110 [.int l0] (wc R u) S (g_110 l0 S) := cw_up (by omega) (fun d' h => by
  subst h
  exact cw_of rfl (by decide) (Nat.le_of_ble_eq_true rfl) rfl (fun e => t_110 (by omega) l0 S))
/-! 75: ListDesk$Reader.readNumber()I -/
theorem at_75_0 : am_at am_m75 0 = some (.iconst 1, 1, 0) := rfl
theorem at_75_1 : am_at am_m75 1 = some (.istore 1, 1, 0) := rfl
theorem at_75_2 : am_at am_m75 2 = some (.aload 0, 1, 0) := rfl
theorem at_75_3 : am_at am_m75 3 = some (.getfield 600, 3, 9) := rfl
theorem at_75_6 : am_at am_m75 6 = some (.invokevirtual 104, 3, 79) := rfl
theorem at_75_9 : am_at am_m75 9 = some (.iconst 45, 2, 1) := rfl
theorem at_75_11 : am_at am_m75 11 = some (.if_icmp .ne 29, 3, 0) := rfl
theorem at_75_14 : am_at am_m75 14 = some (.iconst (-1), 1, 0) := rfl
theorem at_75_15 : am_at am_m75 15 = some (.istore 1, 1, 0) := rfl
theorem at_75_16 : am_at am_m75 16 = some (.aload 0, 1, 0) := rfl
theorem at_75_17 : am_at am_m75 17 = some (.getfield 600, 3, 9) := rfl
theorem at_75_20 : am_at am_m75 20 = some (.dup, 1, 0) := rfl
theorem at_75_21 : am_at am_m75 21 = some (.getfield 10703, 3, 102) := rfl
theorem at_75_24 : am_at am_m75 24 = some (.iconst 1, 1, 0) := rfl
theorem at_75_25 : am_at am_m75 25 = some (.iadd, 1, 0) := rfl
theorem at_75_26 : am_at am_m75 26 = some (.putfield 10703, 3, 102) := rfl
theorem at_75_29 : am_at am_m75 29 = some (.iconst 0, 1, 0) := rfl
theorem at_75_30 : am_at am_m75 30 = some (.istore 2, 1, 0) := rfl
theorem at_75_31 : am_at am_m75 31 = some (.iconst 0, 1, 0) := rfl
theorem at_75_32 : am_at am_m75 32 = some (.istore 3, 1, 0) := rfl
theorem at_75_33 : am_at am_m75 33 = some (.iload 2, 1, 0) := rfl
theorem at_75_34 : am_at am_m75 34 = some (.iconst 9, 2, 1) := rfl
theorem at_75_36 : am_at am_m75 36 = some (.if_icmp .ge 101, 3, 0) := rfl
theorem at_75_39 : am_at am_m75 39 = some (.aload 0, 1, 0) := rfl
theorem at_75_40 : am_at am_m75 40 = some (.getfield 600, 3, 9) := rfl
theorem at_75_43 : am_at am_m75 43 = some (.aload 0, 1, 0) := rfl
theorem at_75_44 : am_at am_m75 44 = some (.getfield 600, 3, 9) := rfl
theorem at_75_47 : am_at am_m75 47 = some (.getfield 10703, 3, 102) := rfl
theorem at_75_50 : am_at am_m75 50 = some (.invokevirtual 102, 3, 108) := rfl
theorem at_75_53 : am_at am_m75 53 = some (.invokestatic 110, 3, 112) := rfl
theorem at_75_56 : am_at am_m75 56 = some (.ifCond .eq 101, 3, 0) := rfl
theorem at_75_59 : am_at am_m75 59 = some (.iload 3, 1, 0) := rfl
theorem at_75_60 : am_at am_m75 60 = some (.iconst 10, 2, 1) := rfl
theorem at_75_62 : am_at am_m75 62 = some (.imul, 1, 0) := rfl
theorem at_75_63 : am_at am_m75 63 = some (.aload 0, 1, 0) := rfl
theorem at_75_64 : am_at am_m75 64 = some (.getfield 600, 3, 9) := rfl
theorem at_75_67 : am_at am_m75 67 = some (.aload 0, 1, 0) := rfl
theorem at_75_68 : am_at am_m75 68 = some (.getfield 600, 3, 9) := rfl
theorem at_75_71 : am_at am_m75 71 = some (.getfield 10703, 3, 102) := rfl
theorem at_75_74 : am_at am_m75 74 = some (.invokevirtual 102, 3, 108) := rfl
theorem at_75_77 : am_at am_m75 77 = some (.iadd, 1, 0) := rfl
theorem at_75_78 : am_at am_m75 78 = some (.iconst 48, 2, 1) := rfl
theorem at_75_80 : am_at am_m75 80 = some (.isub, 1, 0) := rfl
theorem at_75_81 : am_at am_m75 81 = some (.istore 3, 1, 0) := rfl
theorem at_75_82 : am_at am_m75 82 = some (.iinc 2 1, 3, 0) := rfl
theorem at_75_85 : am_at am_m75 85 = some (.aload 0, 1, 0) := rfl
theorem at_75_86 : am_at am_m75 86 = some (.getfield 600, 3, 9) := rfl
theorem at_75_89 : am_at am_m75 89 = some (.dup, 1, 0) := rfl
theorem at_75_90 : am_at am_m75 90 = some (.getfield 10703, 3, 102) := rfl
theorem at_75_93 : am_at am_m75 93 = some (.iconst 1, 1, 0) := rfl
theorem at_75_94 : am_at am_m75 94 = some (.iadd, 1, 0) := rfl
theorem at_75_95 : am_at am_m75 95 = some (.putfield 10703, 3, 102) := rfl
theorem at_75_98 : am_at am_m75 98 = some (.goto 33, 3, 0) := rfl
theorem at_75_101 : am_at am_m75 101 = some (.aload 0, 1, 0) := rfl
theorem at_75_102 : am_at am_m75 102 = some (.getfield 600, 3, 9) := rfl
theorem at_75_105 : am_at am_m75 105 = some (.aload 0, 1, 0) := rfl
theorem at_75_106 : am_at am_m75 106 = some (.getfield 600, 3, 9) := rfl
theorem at_75_109 : am_at am_m75 109 = some (.getfield 10703, 3, 102) := rfl
theorem at_75_112 : am_at am_m75 112 = some (.invokevirtual 102, 3, 108) := rfl
theorem at_75_115 : am_at am_m75 115 = some (.invokestatic 109, 3, 116) := rfl
theorem at_75_118 : am_at am_m75 118 = some (.ifCond .ne 132, 3, 0) := rfl
theorem at_75_121 : am_at am_m75 121 = some (.aload 0, 1, 0) := rfl
theorem at_75_122 : am_at am_m75 122 = some (.aload 0, 1, 0) := rfl
theorem at_75_123 : am_at am_m75 123 = some (.getfield 600, 3, 9) := rfl
theorem at_75_126 : am_at am_m75 126 = some (.getfield 10703, 3, 102) := rfl
theorem at_75_129 : am_at am_m75 129 = some (.invokevirtual 72, 3, 119) := rfl
theorem at_75_132 : am_at am_m75 132 = some (.iload 1, 1, 0) := rfl
theorem at_75_133 : am_at am_m75 133 = some (.iload 3, 1, 0) := rfl
theorem at_75_134 : am_at am_m75 134 = some (.imul, 1, 0) := rfl
theorem at_75_135 : am_at am_m75 135 = some (.ireturn, 1, 0) := rfl
def g_75_132 (n : Nat) (l1 : Int32) (l3 : Int32) (S : amS) : amQ := some (.inl (some (.int (l1 * l3))), S)
theorem t_75_132 {X : amX} {d e : Nat} {R : amS} {u : Nat → Int64} (hd : 3 ≤ d) (n : Nat)  (l1 : Int32) (l3 : Int32) (S : amS) : AW X d am_m75 (wc R u) e 132 [(1, .int l1), (3, .int l3)] [] S (g_75_132 n l1 l3 S) := by
  unfold g_75_132
  refine aw_iload at_75_132 rfl ?_
  refine aw_iload at_75_133 rfl ?_
  refine aw_imul at_75_134 ?_
  exact aw_rI at_75_135 rfl
def g_75_101 (n : Nat) (l1 : Int32) (l3 : Int32) (S : amS) : amQ := az_bI (g_102 (S.1 21 3) S) fun x1 S2 => az_bI (g_109 x1 S2) fun x3 S4 => if x3 = 0 then az_bV (g_72 (S4.1 21 3) S4) fun S5 => g_75_132 n l1 l3 S5 else g_75_132 n l1 l3 S4
theorem t_75_101 {X : amX} {d e : Nat} {R : amS} {u : Nat → Int64} (hd : 3 ≤ d) (n : Nat)  (l1 : Int32) (l3 : Int32) (S : amS) : AW X d am_m75 (wc R u) e 101 [(0, .ref 23), (1, .int l1), (3, .int l3)] [] S (g_75_101 n l1 l3 S) := by
  unfold g_75_101
  refine aw_aload at_75_101 rfl ?_
  refine aw_getf at_75_102 gf_600 ?_
  refine aw_aload at_75_105 rfl ?_
  refine aw_getf at_75_106 gf_600 ?_
  refine aw_getf at_75_109 gf_10703 ?_
  refine aw_cI at_75_112 rfl (c_102 (by omega) _ _) (fun _ h => by cases h) rfl (fun x1 S2 => ?_)
  refine aw_cI at_75_115 rfl (c_109 (by omega) _ _) (fun _ h => by cases h) rfl (fun x3 S4 => ?_)
  refine aw_if_ne at_75_118 ?_ ?_
  · exact aw_sub (al_cons rfl (al_cons rfl al_nil)) (t_75_132 (by omega) n l1 l3 S4)
  · refine aw_aload at_75_121 rfl ?_
    refine aw_aload at_75_122 rfl ?_
    refine aw_getf at_75_123 gf_600 ?_
    refine aw_getf at_75_126 gf_10703 ?_
    refine aw_cV at_75_129 rfl (c_72 (by omega) _ _) (fun _ h => by cases h) rfl (fun S5 => ?_)
    exact aw_sub (al_cons rfl (al_cons rfl al_nil)) (t_75_132 (by omega) n l1 l3 S5)
def h_75_33 (n : Nat) (H33 : Int32 → Int32 → Int32 → amS → amQ) (l1 : Int32) (l2 : Int32) (l3 : Int32) (S : amS) : amQ := if 9 ≤ l2 then g_75_101 n l1 l3 S else az_bI (g_102 (S.1 21 3) S) fun x1 S2 => az_bI (g_110 x1 S2) fun x3 S4 => if x3 = 0 then g_75_101 n l1 l3 S4 else az_bI (g_102 (S4.1 21 3) S4) fun x5 S6 => az_st (((l3 * 10) + x5) - 48) fun x7 => az_st (sI S6 21 3 ((S6.1 21 3) + 1)) fun S8 => H33 l1 (l2 + 1) x7 S8
def g_75_33 : Nat → Int32 → Int32 → Int32 → amS → amQ
  | 0 => fun _ _ _ _ => none
  | n + 1 => h_75_33 n (g_75_33 n)
theorem th_75_33 {X : amX} {d e : Nat} {R : amS} {u : Nat → Int64} {H33 : Int32 → Int32 → Int32 → amS → amQ} (hd : 3 ≤ d) (n : Nat) (hH33 : ∀ (l1 : Int32) (l2 : Int32) (l3 : Int32) (S : amS), AW X d am_m75 (wc R u) e 33 [(0, .ref 23), (1, .int l1), (2, .int l2), (3, .int l3)] [] S (H33 l1 l2 l3 S)) (l1 : Int32) (l2 : Int32) (l3 : Int32)  (S : amS) : AW X d am_m75 (wc R u) e 33 [(0, .ref 23), (1, .int l1), (2, .int l2), (3, .int l3)] [] S (h_75_33 n H33 l1 l2 l3 S) := by
  unfold h_75_33
  refine aw_iload at_75_33 rfl ?_
  refine aw_ic 9 at_75_34 ic_9 ?_
  refine aw_icmp_ge at_75_36 ?_ ?_
  · exact aw_sub (al_cons rfl (al_cons rfl (al_cons rfl al_nil))) (t_75_101 (by omega) n l1 l3 S)
  · refine aw_aload at_75_39 rfl ?_
    refine aw_getf at_75_40 gf_600 ?_
    refine aw_aload at_75_43 rfl ?_
    refine aw_getf at_75_44 gf_600 ?_
    refine aw_getf at_75_47 gf_10703 ?_
    refine aw_cI at_75_50 rfl (c_102 (by omega) _ _) (fun _ h => by cases h) rfl (fun x1 S2 => ?_)
    refine aw_cI at_75_53 rfl (c_110 (by omega) _ _) (fun _ h => by cases h) rfl (fun x3 S4 => ?_)
    refine aw_if_eq at_75_56 ?_ ?_
    · exact aw_sub (al_cons rfl (al_cons rfl (al_cons rfl al_nil))) (t_75_101 (by omega) n l1 l3 S4)
    · refine aw_iload at_75_59 rfl ?_
      refine aw_ic 10 at_75_60 ic_10 ?_
      refine aw_imul at_75_62 ?_
      refine aw_aload at_75_63 rfl ?_
      refine aw_getf at_75_64 gf_600 ?_
      refine aw_aload at_75_67 rfl ?_
      refine aw_getf at_75_68 gf_600 ?_
      refine aw_getf at_75_71 gf_10703 ?_
      refine aw_cI at_75_74 rfl (c_102 (by omega) _ _) (fun _ h => by cases h) rfl (fun x5 S6 => ?_)
      refine aw_iadd at_75_77 ?_
      refine aw_ic 48 at_75_78 ic_48 ?_
      refine aw_isub at_75_80 ?_
      refine aw_nameI (fun x7 => ?_)
      refine aw_istore at_75_81 (by decide) rfl rfl ?_
      refine aw_iinc at_75_82 rfl (by decide) rfl ic_1 rfl ?_
      refine aw_aload at_75_85 rfl ?_
      refine aw_getf at_75_86 gf_600 ?_
      refine aw_dupA at_75_89 ?_
      refine aw_getf at_75_90 gf_10703 ?_
      refine aw_ic 1 at_75_93 ic_1 ?_
      refine aw_iadd at_75_94 ?_
      refine aw_putf at_75_95 (pf_10703 _) (fun S8 => ?_)
      refine aw_goto at_75_98 ?_
      exact aw_sub (al_cons rfl (al_cons rfl (al_cons rfl (al_cons rfl al_nil)))) (hH33 l1 (l2 + 1) x7 S8)
theorem t_75_33 {X : amX} {d e : Nat} {R : amS} {u : Nat → Int64} (hd : 3 ≤ d) : ∀ (n : Nat)  (l1 : Int32) (l2 : Int32) (l3 : Int32) (S : amS), AW X d am_m75 (wc R u) e 33 [(0, .ref 23), (1, .int l1), (2, .int l2), (3, .int l3)] [] S (g_75_33 n l1 l2 l3 S)
  | 0, _, _, _, _ => aw_none
  | n + 1, l1, l2, l3, S => th_75_33 hd n (t_75_33 hd n) l1 l2 l3 S
def g_75_29 (n : Nat) (l1 : Int32) (S : amS) : amQ := g_75_33 n l1 0 0 S
theorem t_75_29 {X : amX} {d e : Nat} {R : amS} {u : Nat → Int64} (hd : 3 ≤ d) (n : Nat)  (l1 : Int32) (S : amS) : AW X d am_m75 (wc R u) e 29 [(0, .ref 23), (1, .int l1)] [] S (g_75_29 n l1 S) := by
  unfold g_75_29
  refine aw_ic 0 at_75_29 ic_0 ?_
  refine aw_istore at_75_30 (by decide) rfl rfl ?_
  refine aw_ic 0 at_75_31 ic_0 ?_
  refine aw_istore at_75_32 (by decide) rfl rfl ?_
  exact aw_sub (al_cons rfl (al_cons rfl (al_cons rfl (al_cons rfl al_nil)))) (t_75_33 (by omega) n l1 0 0 S)
def g_75 (n : Nat) (S : amS) : amQ := az_bI (g_104 n S) fun x1 S2 => if x1 = 45 then az_st (sI S2 21 3 ((S2.1 21 3) + 1)) fun S3 => g_75_29 n ((-1)) S3 else g_75_29 n 1 S2
theorem t_75 {X : amX} {d e : Nat} {R : amS} {u : Nat → Int64} (hd : 3 ≤ d) (n : Nat)  (S : amS) : AW X d am_m75 (wc R u) e 0 [(0, .ref 23)] [] S (g_75 n S) := by
  unfold g_75
  refine aw_ic 1 at_75_0 ic_1 ?_
  refine aw_istore at_75_1 (by decide) rfl rfl ?_
  refine aw_aload at_75_2 rfl ?_
  refine aw_getf at_75_3 gf_600 ?_
  refine aw_cI at_75_6 rfl (c_104 (by omega) n _) (fun _ h => by cases h) rfl (fun x1 S2 => ?_)
  refine aw_ic 45 at_75_9 ic_45 ?_
  refine aw_icmp_ne at_75_11 ?_ ?_
  · exact aw_sub (al_cons rfl (al_cons rfl al_nil)) (t_75_29 (by omega) n 1 S2)
  · refine aw_ic (-1) at_75_14 ic_m1 ?_
    refine aw_istore at_75_15 (by decide) rfl rfl ?_
    refine aw_aload at_75_16 rfl ?_
    refine aw_getf at_75_17 gf_600 ?_
    refine aw_dupA at_75_20 ?_
    refine aw_getf at_75_21 gf_10703 ?_
    refine aw_ic 1 at_75_24 ic_1 ?_
    refine aw_iadd at_75_25 ?_
    refine aw_putf at_75_26 (pf_10703 _) (fun S3 => ?_)
    exact aw_sub (al_cons rfl (al_cons rfl al_nil)) (t_75_29 (by omega) n ((-1)) S3)
theorem c_75 {X : amX} {d : Nat} {R : amS} {u : Nat → Int64} (hd : 4 ≤ d) (n : Nat) (S : amS) : CW X d 75 [.ref 23] (wc R u) S (g_75 n S) := cw_up (by omega) (fun d' h => by
  subst h
  exact cw_of rfl (by decide) (Nat.le_of_ble_eq_true rfl) rfl (fun e => t_75 (by omega) n S))
/-! 108: ListDesk$Tape.letter()I -/
theorem at_108_0 : am_at am_m108 0 = some (.aload 0, 1, 0) := rfl
theorem at_108_1 : am_at am_m108 1 = some (.aload 0, 1, 0) := rfl
theorem at_108_2 : am_at am_m108 2 = some (.getfield 703, 3, 28) := rfl
theorem at_108_5 : am_at am_m108 5 = some (.invokevirtual 102, 3, 31) := rfl
theorem at_108_8 : am_at am_m108 8 = some (.istore 1, 1, 0) := rfl
theorem at_108_9 : am_at am_m108 9 = some (.iload 1, 1, 0) := rfl
theorem at_108_10 : am_at am_m108 10 = some (.iconst 97, 2, 1) := rfl
theorem at_108_12 : am_at am_m108 12 = some (.if_icmp .lt 44, 3, 0) := rfl
theorem at_108_15 : am_at am_m108 15 = some (.iload 1, 1, 0) := rfl
theorem at_108_16 : am_at am_m108 16 = some (.iconst 122, 2, 1) := rfl
theorem at_108_18 : am_at am_m108 18 = some (.if_icmp .gt 44, 3, 0) := rfl
theorem at_108_21 : am_at am_m108 21 = some (.aload 0, 1, 0) := rfl
theorem at_108_22 : am_at am_m108 22 = some (.aload 0, 1, 0) := rfl
theorem at_108_23 : am_at am_m108 23 = some (.getfield 703, 3, 28) := rfl
theorem at_108_26 : am_at am_m108 26 = some (.iconst 1, 1, 0) := rfl
theorem at_108_27 : am_at am_m108 27 = some (.iadd, 1, 0) := rfl
theorem at_108_28 : am_at am_m108 28 = some (.invokevirtual 102, 3, 31) := rfl
theorem at_108_31 : am_at am_m108 31 = some (.invokestatic 109, 3, 54) := rfl
theorem at_108_34 : am_at am_m108 34 = some (.ifCond .eq 44, 3, 0) := rfl
theorem at_108_37 : am_at am_m108 37 = some (.iload 1, 1, 0) := rfl
theorem at_108_38 : am_at am_m108 38 = some (.iconst 97, 2, 1) := rfl
theorem at_108_40 : am_at am_m108 40 = some (.isub, 1, 0) := rfl
theorem at_108_41 : am_at am_m108 41 = some (.goto 45, 3, 0) := rfl
theorem at_108_44 : am_at am_m108 44 = some (.iconst (-1), 1, 0) := rfl
theorem at_108_45 : am_at am_m108 45 = some (.ireturn, 1, 0) := rfl
def g_108 (S : amS) : amQ := az_bI (g_102 (S.1 21 3) S) fun x1 S2 => if x1 < 97 then some (.inl (some (.int ((-1)))), S2) else if 122 < x1 then some (.inl (some (.int ((-1)))), S2) else az_bI (g_102 ((S2.1 21 3) + 1) S2) fun x3 S4 => az_bI (g_109 x3 S4) fun x5 S6 => if x5 = 0 then some (.inl (some (.int ((-1)))), S6) else some (.inl (some (.int (x1 - 97))), S6)
theorem t_108 {X : amX} {d e : Nat} {R : amS} {u : Nat → Int64} (hd : 1 ≤ d)  (S : amS) : AW X d am_m108 (wc R u) e 0 [(0, .ref 21)] [] S (g_108 S) := by
  unfold g_108
  refine aw_aload at_108_0 rfl ?_
  refine aw_aload at_108_1 rfl ?_
  refine aw_getf at_108_2 gf_703 ?_
  refine aw_cI at_108_5 rfl (c_102 (by omega) _ _) (fun _ h => by cases h) rfl (fun x1 S2 => ?_)
  refine aw_istore at_108_8 (by decide) rfl rfl ?_
  refine aw_iload at_108_9 rfl ?_
  refine aw_ic 97 at_108_10 ic_97 ?_
  refine aw_icmp_lt at_108_12 ?_ ?_
  · refine aw_ic (-1) at_108_44 ic_m1 ?_
    exact aw_rI at_108_45 rfl
  · refine aw_iload at_108_15 rfl ?_
    refine aw_ic 122 at_108_16 ic_122 ?_
    refine aw_icmp_gt at_108_18 ?_ ?_
    · refine aw_ic (-1) at_108_44 ic_m1 ?_
      exact aw_rI at_108_45 rfl
    · refine aw_aload at_108_21 rfl ?_
      refine aw_aload at_108_22 rfl ?_
      refine aw_getf at_108_23 gf_703 ?_
      refine aw_ic 1 at_108_26 ic_1 ?_
      refine aw_iadd at_108_27 ?_
      refine aw_cI at_108_28 rfl (c_102 (by omega) _ _) (fun _ h => by cases h) rfl (fun x3 S4 => ?_)
      refine aw_cI at_108_31 rfl (c_109 (by omega) _ _) (fun _ h => by cases h) rfl (fun x5 S6 => ?_)
      refine aw_if_eq at_108_34 ?_ ?_
      · refine aw_ic (-1) at_108_44 ic_m1 ?_
        exact aw_rI at_108_45 rfl
      · refine aw_iload at_108_37 rfl ?_
        refine aw_ic 97 at_108_38 ic_97 ?_
        refine aw_isub at_108_40 ?_
        refine aw_goto at_108_41 ?_
        exact aw_rI at_108_45 rfl
theorem c_108 {X : amX} {d : Nat} {R : amS} {u : Nat → Int64} (hd : 2 ≤ d) (S : amS) : CW X d 108 [.ref 21] (wc R u) S (g_108 S) := cw_up (by omega) (fun d' h => by
  subst h
  exact cw_of rfl (by decide) (Nat.le_of_ble_eq_true rfl) rfl (fun e => t_108 (by omega) S))
/-! 77: ListDesk$Reader.boundVariable()I -/
theorem at_77_0 : am_at am_m77 0 = some (.aload 0, 1, 0) := rfl
theorem at_77_1 : am_at am_m77 1 = some (.getfield 600, 3, 9) := rfl
theorem at_77_4 : am_at am_m77 4 = some (.invokevirtual 103, 3, 75) := rfl
theorem at_77_7 : am_at am_m77 7 = some (.istore 1, 1, 0) := rfl
theorem at_77_8 : am_at am_m77 8 = some (.aload 0, 1, 0) := rfl
theorem at_77_9 : am_at am_m77 9 = some (.getfield 600, 3, 9) := rfl
theorem at_77_12 : am_at am_m77 12 = some (.invokevirtual 108, 3, 134) := rfl
theorem at_77_15 : am_at am_m77 15 = some (.istore 2, 1, 0) := rfl
theorem at_77_16 : am_at am_m77 16 = some (.iload 2, 1, 0) := rfl
theorem at_77_17 : am_at am_m77 17 = some (.ifCond .ge 24, 3, 0) := rfl
theorem at_77_20 : am_at am_m77 20 = some (.iconst (-1), 1, 0) := rfl
theorem at_77_21 : am_at am_m77 21 = some (.goto 32, 3, 0) := rfl
theorem at_77_24 : am_at am_m77 24 = some (.aload 0, 1, 0) := rfl
theorem at_77_25 : am_at am_m77 25 = some (.getfield 602, 3, 19) := rfl
theorem at_77_28 : am_at am_m77 28 = some (.iload 2, 1, 0) := rfl
theorem at_77_29 : am_at am_m77 29 = some (.invokevirtual 60, 3, 137) := rfl
theorem at_77_32 : am_at am_m77 32 = some (.istore 3, 1, 0) := rfl
theorem at_77_33 : am_at am_m77 33 = some (.iload 3, 1, 0) := rfl
theorem at_77_34 : am_at am_m77 34 = some (.ifCond .ge 42, 3, 0) := rfl
theorem at_77_37 : am_at am_m77 37 = some (.aload 0, 1, 0) := rfl
theorem at_77_38 : am_at am_m77 38 = some (.iload 1, 1, 0) := rfl
theorem at_77_39 : am_at am_m77 39 = some (.invokevirtual 72, 3, 119) := rfl
theorem at_77_42 : am_at am_m77 42 = some (.aload 0, 1, 0) := rfl
theorem at_77_43 : am_at am_m77 43 = some (.getfield 600, 3, 9) := rfl
theorem at_77_46 : am_at am_m77 46 = some (.dup, 1, 0) := rfl
theorem at_77_47 : am_at am_m77 47 = some (.getfield 10703, 3, 102) := rfl
theorem at_77_50 : am_at am_m77 50 = some (.iconst 1, 1, 0) := rfl
theorem at_77_51 : am_at am_m77 51 = some (.iadd, 1, 0) := rfl
theorem at_77_52 : am_at am_m77 52 = some (.putfield 10703, 3, 102) := rfl
theorem at_77_55 : am_at am_m77 55 = some (.iload 3, 1, 0) := rfl
theorem at_77_56 : am_at am_m77 56 = some (.ireturn, 1, 0) := rfl
def g_77_42 (n : Nat) (l3 : Int32) (S : amS) : amQ := az_st (sI S 21 3 ((S.1 21 3) + 1)) fun S1 => some (.inl (some (.int l3)), S1)
theorem t_77_42 {X : amX} {d e : Nat} {R : amS} {u : Nat → Int64} (hd : 2 ≤ d) (n : Nat)  (l3 : Int32) (S : amS) : AW X d am_m77 (wc R u) e 42 [(0, .ref 23), (3, .int l3)] [] S (g_77_42 n l3 S) := by
  unfold g_77_42
  refine aw_aload at_77_42 rfl ?_
  refine aw_getf at_77_43 gf_600 ?_
  refine aw_dupA at_77_46 ?_
  refine aw_getf at_77_47 gf_10703 ?_
  refine aw_ic 1 at_77_50 ic_1 ?_
  refine aw_iadd at_77_51 ?_
  refine aw_putf at_77_52 (pf_10703 _) (fun S1 => ?_)
  refine aw_iload at_77_55 rfl ?_
  exact aw_rI at_77_56 rfl
def g_77_32 (n : Nat) (l1 : Int32) (s0 : Int32) (S : amS) : amQ := if 0 ≤ s0 then g_77_42 n s0 S else az_bV (g_72 l1 S) fun S1 => g_77_42 n s0 S1
theorem t_77_32 {X : amX} {d e : Nat} {R : amS} {u : Nat → Int64} (hd : 2 ≤ d) (n : Nat)  (l1 : Int32) (s0 : Int32) (S : amS) : AW X d am_m77 (wc R u) e 32 [(0, .ref 23), (1, .int l1)] [.int s0] S (g_77_32 n l1 s0 S) := by
  unfold g_77_32
  refine aw_istore at_77_32 (by decide) rfl rfl ?_
  refine aw_iload at_77_33 rfl ?_
  refine aw_if_ge at_77_34 ?_ ?_
  · exact aw_sub (al_cons rfl (al_cons rfl al_nil)) (t_77_42 (by omega) n s0 S)
  · refine aw_aload at_77_37 rfl ?_
    refine aw_iload at_77_38 rfl ?_
    refine aw_cV at_77_39 rfl (c_72 (by omega) _ _) (fun _ h => by cases h) rfl (fun S1 => ?_)
    exact aw_sub (al_cons rfl (al_cons rfl al_nil)) (t_77_42 (by omega) n s0 S1)
def g_77 (n : Nat) (S : amS) : amQ := az_bI (g_103 n S) fun x1 S2 => az_bI (g_108 S2) fun x3 S4 => if 0 ≤ x3 then az_bI (g_60 n x3 S4) fun x5 S6 => g_77_32 n x1 x5 S6 else g_77_32 n x1 ((-1)) S4
theorem t_77 {X : amX} {d e : Nat} {R : amS} {u : Nat → Int64} (hd : 2 ≤ d) (n : Nat)  (S : amS) : AW X d am_m77 (wc R u) e 0 [(0, .ref 23)] [] S (g_77 n S) := by
  unfold g_77
  refine aw_aload at_77_0 rfl ?_
  refine aw_getf at_77_1 gf_600 ?_
  refine aw_cI at_77_4 rfl (c_103 (by omega) n _) (fun _ h => by cases h) rfl (fun x1 S2 => ?_)
  refine aw_istore at_77_7 (by decide) rfl rfl ?_
  refine aw_aload at_77_8 rfl ?_
  refine aw_getf at_77_9 gf_600 ?_
  refine aw_cI at_77_12 rfl (c_108 (by omega) _) (fun _ h => by cases h) rfl (fun x3 S4 => ?_)
  refine aw_istore at_77_15 (by decide) rfl rfl ?_
  refine aw_iload at_77_16 rfl ?_
  refine aw_if_ge at_77_17 ?_ ?_
  · refine aw_aload at_77_24 rfl ?_
    refine aw_getf at_77_25 gf_602 ?_
    refine aw_iload at_77_28 rfl ?_
    refine aw_cI at_77_29 rfl (c_60 (by omega) n _ _) (fun _ h => by cases h) rfl (fun x5 S6 => ?_)
    exact aw_sub (al_cons rfl (al_cons rfl al_nil)) (t_77_32 (by omega) n x1 x5 S6)
  · refine aw_ic (-1) at_77_20 ic_m1 ?_
    refine aw_goto at_77_21 ?_
    exact aw_sub (al_cons rfl (al_cons rfl al_nil)) (t_77_32 (by omega) n x1 ((-1)) S4)
theorem c_77 {X : amX} {d : Nat} {R : amS} {u : Nat → Int64} (hd : 3 ≤ d) (n : Nat) (S : amS) : CW X d 77 [.ref 23] (wc R u) S (g_77 n S) := cw_up (by omega) (fun d' h => by
  subst h
  exact cw_of rfl (by decide) (Nat.le_of_ble_eq_true rfl) rfl (fun e => t_77 (by omega) n S))
