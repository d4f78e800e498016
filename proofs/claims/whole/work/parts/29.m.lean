theorem flh_130_55 {n n' : Nat} (hn : n ≤ n') {H55 H55' : Int64 → Int32 → amS → amQ} (hH55 : ∀ a0 a1 S, FL (H55 a0 a1 S) (H55' a0 a1 S)) (l1 : Int64) (l5 : Int32) (S : amS) : FL (h_130_55 n H55 l1 l5 S) (h_130_55 n' H55' l1 l5 S) := by
  unfold h_130_55
  exact fl_ite (fl_refl) (fl_st (fun _ => fl_ck (fl_st (fun _ => fl_st (fun _ => hH55 _ _ _)))))
theorem fl_130_55 : ∀ {n n' : Nat} (hn : n ≤ n') (l1 : Int64) (l5 : Int32) (S : amS), FL (g_130_55 n l1 l5 S) (g_130_55 n' l1 l5 S)
  | 0, _, _, _, _, _ => fl_none
  | n + 1, 0, h, _, _, _ => absurd h (Nat.not_succ_le_zero n)
  | n + 1, n' + 1, h, l1, l5, S => flh_130_55 (Nat.le_of_succ_le_succ h) (fun a0 a1 S => fl_130_55 (Nat.le_of_succ_le_succ h) a0 a1 S) l1 l5 S
theorem fl_130_42 {n n' : Nat} (hn : n ≤ n') (l1 : Int64) (l3 : Int32) (s1 : Int32) (s2 : Int32) (S : amS) : FL (g_130_42 n l1 l3 s1 s2 S) (g_130_42 n' l1 l3 s1 s2 S) := by
  unfold g_130_42
  exact fl_bI (fl_refl) (fun _ _ => fl_ite (fl_st (fun _ => fl_130_55 hn _ _ _)) (fl_refl))
theorem fl_130_41 {n n' : Nat} (hn : n ≤ n') (l1 : Int64) (l3 : Int32) (s1 : Int32) (S : amS) : FL (g_130_41 n l1 l3 s1 S) (g_130_41 n' l1 l3 s1 S) := by
  unfold g_130_41
  exact fl_130_42 hn _ _ _ _ _
theorem fl_130_15 {n n' : Nat} (hn : n ≤ n') (l1 : Int64) (l3 : Int32) (s0 : Int32) (S : amS) : FL (g_130_15 n l1 l3 s0 S) (g_130_15 n' l1 l3 s0 S) := by
  unfold g_130_15
  exact fl_ite (fl_ite (fl_130_41 hn _ _ _ _) (fl_130_42 hn _ _ _ _ _)) (fl_130_41 hn _ _ _ _)
theorem fl_130 {n n' : Nat} (hn : n ≤ n') (l1 : Int64) (l3 : Int32) (S : amS) : FL (g_130 n l1 l3 S) (g_130 n' l1 l3 S) := by
  unfold g_130
  exact fl_bI (fl_refl) (fun _ _ => fl_ite (fl_130_15 hn _ _ _ _) (fl_130_15 hn _ _ _ _))
noncomputable def G_130_55 (l1 : Int64) (l5 : Int32) (S : amS) : amQ := az_lim (fun m n => g_130_55 n l1 l5 S)
theorem ev_130_55 (l1 : Int64) (l5 : Int32) (S : amS) : EV (fun m n => g_130_55 n l1 l5 S) (G_130_55 l1 l5 S) := ev_lim (fun m m' n n' hm hn => fl_130_55 hn l1 l5 S)
noncomputable def B_130_55 (H55 : Int64 → Int32 → amS → amQ) (l1 : Int64) (l5 : Int32) (S : amS) : amQ := if l5 < 0 then some (.inl (some (.int (S.1 34 2))), S) else az_st (S.1 34 2) fun x2 => az_ck x2 250 (az_st (sI S 35 x2.toNatClampNeg ((Int64.toInt32 (l1 >>> ((8 * l5).toInt64 &&& 63))) &&& 255)) fun S3 => az_st (sI S3 34 2 ((S3.1 34 2) + 1)) fun S4 => H55 l1 (l5 + (-1)) S4)
theorem evB_130_55 {N55 : Nat → Nat → Int64 → Int32 → amS → amQ} {H55 : Int64 → Int32 → amS → amQ} (hH55 : ∀ a0 a1 S, EV (fun m n => N55 m n a0 a1 S) (H55 a0 a1 S)) (l1 : Int64) (l5 : Int32) (S : amS) : EV (fun m n => h_130_55 n (N55 m n) l1 l5 S) (B_130_55 H55 l1 l5 S) := by
  unfold h_130_55 B_130_55
  exact ev_ite (ev_c) (ev_st (fun _ => ev_ck (ev_st (fun _ => ev_st (fun _ => hH55 _ _ _)))))
theorem G_130_55_eq (l1 : Int64) (l5 : Int32) (S : amS) : G_130_55 l1 l5 S = B_130_55 (G_130_55 ) l1 l5 S := ev_uniq (f := fun m n => g_130_55 (n + 1) l1 l5 S) (ev_shift (ev_130_55 l1 l5 S)) (evB_130_55 (N55 := fun m n => g_130_55 n) (fun a0 a1 S => ev_130_55 a0 a1 S) l1 l5 S)
noncomputable def G_130_42 (l1 : Int64) (l3 : Int32) (s1 : Int32) (s2 : Int32) (S : amS) : amQ := az_bI (g_128 s1 s2 S) fun x1 S2 => if x1 = 0 then az_st (l3 - 1) fun x3 => G_130_55 l1 x3 S2 else some (.inl (some (.int 0)), S2)
theorem ev_130_42 (l1 : Int64) (l3 : Int32) (s1 : Int32) (s2 : Int32) (S : amS) : EV (fun m n => g_130_42 n l1 l3 s1 s2 S) (G_130_42 l1 l3 s1 s2 S) := by
  unfold g_130_42 G_130_42
  exact ev_bI (ev_c) (fun _ _ => ev_ite (ev_st (fun _ => ev_130_55 _ _ _)) (ev_c))
noncomputable def G_130_41 (l1 : Int64) (l3 : Int32) (s1 : Int32) (S : amS) : amQ := G_130_42 l1 l3 s1 0 S
theorem ev_130_41 (l1 : Int64) (l3 : Int32) (s1 : Int32) (S : amS) : EV (fun m n => g_130_41 n l1 l3 s1 S) (G_130_41 l1 l3 s1 S) := by
  unfold g_130_41 G_130_41
  exact ev_130_42 _ _ _ _ _
noncomputable def G_130_15 (l1 : Int64) (l3 : Int32) (s0 : Int32) (S : amS) : amQ := if s0 = 0 then if ((S.1 34 2) + l3) ≤ 250 then G_130_41 l1 l3 s0 S else G_130_42 l1 l3 s0 1 S else G_130_41 l1 l3 s0 S
theorem ev_130_15 (l1 : Int64) (l3 : Int32) (s0 : Int32) (S : amS) : EV (fun m n => g_130_15 n l1 l3 s0 S) (G_130_15 l1 l3 s0 S) := by
  unfold g_130_15 G_130_15
  exact ev_ite (ev_ite (ev_130_41 _ _ _ _) (ev_130_42 _ _ _ _ _)) (ev_130_41 _ _ _ _)
noncomputable def G_130 (l1 : Int64) (l3 : Int32) (S : amS) : amQ := az_bI (g_129 l3 1 8 S) fun x1 S2 => if x1 = 0 then G_130_15 l1 l3 1 S2 else G_130_15 l1 l3 0 S2
theorem ev_130 (l1 : Int64) (l3 : Int32) (S : amS) : EV (fun m n => g_130 n l1 l3 S) (G_130 l1 l3 S) := by
  unfold g_130 G_130
  exact ev_bI (ev_c) (fun _ _ => ev_ite (ev_130_15 _ _ _ _) (ev_130_15 _ _ _ _))
theorem fl_132_38 {n n' : Nat} (hn : n ≤ n') (S : amS) : FL (g_132_38 n S) (g_132_38 n' S) := by
  unfold g_132_38
  exact fl_ite (fl_refl) (fl_ck (fl_refl))
theorem flh_132 {n n' : Nat} (hn : n ≤ n') {H0 H0' : amS → amQ} (hH0 : ∀  S, FL (H0  S) (H0'  S)) (S : amS) : FL (h_132 n H0 S) (h_132 n' H0' S) := by
  unfold h_132
  exact fl_ite (fl_132_38 hn _) (fl_ck (fl_ite (fl_st (fun _ => hH0 _)) (fl_132_38 hn _)))
theorem fl_132 : ∀ {n n' : Nat} (hn : n ≤ n') (S : amS), FL (g_132 n S) (g_132 n' S)
  | 0, _, _, _ => fl_none
  | n + 1, 0, h, _ => absurd h (Nat.not_succ_le_zero n)
  | n + 1, n' + 1, h, S => flh_132 (Nat.le_of_succ_le_succ h) (fun S => fl_132 (Nat.le_of_succ_le_succ h) S) S
noncomputable def G_132_38 (S : amS) : amQ := if (S.1 34 3) ≤ (S.1 34 4) then some (.inl (some (.int ((-1)))), S) else az_ck (S.1 34 4) 250 (some (.inl (some (.int (S.1 35 (S.1 34 4).toNatClampNeg))), S))
theorem ev_132_38 (S : amS) : EV (fun m n => g_132_38 n S) (G_132_38 S) := by
  unfold g_132_38 G_132_38
  exact ev_ite (ev_c) (ev_ck (ev_c))
noncomputable def G_132 (S : amS) : amQ := az_lim (fun m n => g_132 n S)
theorem ev_132 (S : amS) : EV (fun m n => g_132 n S) (G_132 S) := ev_lim (fun m m' n n' hm hn => fl_132 hn S)
noncomputable def B_132 (H0 : amS → amQ) (S : amS) : amQ := if (S.1 34 3) ≤ (S.1 34 4) then G_132_38 S else az_ck (S.1 34 4) 250 (if (S.1 35 (S.1 34 4).toNatClampNeg) = 32 then az_st (sI S 34 4 ((S.1 34 4) + 1)) fun S1 => H0 S1 else G_132_38 S)
theorem evB_132 {N0 : Nat → Nat → amS → amQ} {H0 : amS → amQ} (hH0 : ∀  S, EV (fun m n => N0 m n  S) (H0  S)) (S : amS) : EV (fun m n => h_132 n (N0 m n) S) (B_132 H0 S) := by
  unfold h_132 B_132
  exact ev_ite (ev_132_38 _) (ev_ck (ev_ite (ev_st (fun _ => hH0 _)) (ev_132_38 _)))
theorem G_132_eq (S : amS) : G_132 S = B_132 (G_132 ) S := ev_uniq (f := fun m n => g_132 (n + 1) S) (ev_shift (ev_132 S)) (evB_132 (N0 := fun m n => g_132 n) (fun  S => ev_132  S) S)
theorem fl_133_16 {n n' : Nat} (hn : n ≤ n') (S : amS) : FL (g_133_16 n S) (g_133_16 n' S) := by
  unfold g_133_16
  exact fl_st (fun _ => fl_refl)
theorem fl_133 {n n' : Nat} (hn : n ≤ n') (l1 : Int32) (S : amS) : FL (g_133 n l1 S) (g_133 n' l1 S) := by
  unfold g_133
  exact fl_bI (fl_132 hn _) (fun _ _ => fl_ite (fl_133_16 hn _) (fl_bV (fl_refl) (fun _ => fl_133_16 hn _)))
noncomputable def G_133_16 (S : amS) : amQ := az_st (sI S 34 4 ((S.1 34 4) + 1)) fun S1 => some (.inl none, S1)
theorem ev_133_16 (S : amS) : EV (fun m n => g_133_16 n S) (G_133_16 S) := by
  unfold g_133_16 G_133_16
  exact ev_st (fun _ => ev_c)
noncomputable def G_133 (l1 : Int32) (S : amS) : amQ := az_bI (G_132 S) fun x1 S2 => if x1 = l1 then G_133_16 S2 else az_bV (g_131 (S2.1 34 4) S2) fun S3 => G_133_16 S3
theorem ev_133 (l1 : Int32) (S : amS) : EV (fun m n => g_133 n l1 S) (G_133 l1 S) := by
  unfold g_133 G_133
  exact ev_bI (ev_132 _) (fun _ _ => ev_ite (ev_133_16 _) (ev_bV (ev_c) (fun _ => ev_133_16 _)))
theorem fl_134_79 {n n' : Nat} (hn : n ≤ n') (S : amS) : FL (g_134_79 n S) (g_134_79 n' S) := by
  unfold g_134_79
  exact fl_st (fun _ => fl_refl)
theorem flh_134_13 {n n' : Nat} (hn : n ≤ n') {H13 H13' : amS → amQ} (hH13 : ∀  S, FL (H13  S) (H13'  S)) (S : amS) : FL (h_134_13 n H13 S) (h_134_13 n' H13' S) := by
  unfold h_134_13
  exact fl_ite (fl_134_79 hn _) (fl_ck (fl_ite (fl_134_79 hn _) (fl_ck (fl_ite (fl_134_79 hn _) (fl_ck (fl_ite (fl_134_79 hn _) (fl_st (fun _ => hH13 _))))))))
theorem fl_134_13 : ∀ {n n' : Nat} (hn : n ≤ n') (S : amS), FL (g_134_13 n S) (g_134_13 n' S)
  | 0, _, _, _ => fl_none
  | n + 1, 0, h, _ => absurd h (Nat.not_succ_le_zero n)
  | n + 1, n' + 1, h, S => flh_134_13 (Nat.le_of_succ_le_succ h) (fun S => fl_134_13 (Nat.le_of_succ_le_succ h) S) S
theorem fl_134 {n n' : Nat} (hn : n ≤ n') (S : amS) : FL (g_134 n S) (g_134 n' S) := by
  unfold g_134
  exact fl_bI (fl_132 hn _) (fun _ _ => fl_st (fun _ => fl_134_13 hn _))
noncomputable def G_134_79 (S : amS) : amQ := az_st (sI S 34 28 (S.1 34 4)) fun S1 => some (.inl none, S1)
theorem ev_134_79 (S : amS) : EV (fun m n => g_134_79 n S) (G_134_79 S) := by
  unfold g_134_79 G_134_79
  exact ev_st (fun _ => ev_c)
noncomputable def G_134_13 (S : amS) : amQ := az_lim (fun m n => g_134_13 n S)
theorem ev_134_13 (S : amS) : EV (fun m n => g_134_13 n S) (G_134_13 S) := ev_lim (fun m m' n n' hm hn => fl_134_13 hn S)
noncomputable def B_134_13 (H13 : amS → amQ) (S : amS) : amQ := if (S.1 34 3) ≤ (S.1 34 4) then G_134_79 S else az_ck (S.1 34 4) 250 (if (S.1 35 (S.1 34 4).toNatClampNeg) = 32 then G_134_79 S else az_ck (S.1 34 4) 250 (if (S.1 35 (S.1 34 4).toNatClampNeg) = 40 then G_134_79 S else az_ck (S.1 34 4) 250 (if (S.1 35 (S.1 34 4).toNatClampNeg) = 41 then G_134_79 S else az_st (sI S 34 4 ((S.1 34 4) + 1)) fun S1 => H13 S1)))
theorem evB_134_13 {N13 : Nat → Nat → amS → amQ} {H13 : amS → amQ} (hH13 : ∀  S, EV (fun m n => N13 m n  S) (H13  S)) (S : amS) : EV (fun m n => h_134_13 n (N13 m n) S) (B_134_13 H13 S) := by
  unfold h_134_13 B_134_13
  exact ev_ite (ev_134_79 _) (ev_ck (ev_ite (ev_134_79 _) (ev_ck (ev_ite (ev_134_79 _) (ev_ck (ev_ite (ev_134_79 _) (ev_st (fun _ => hH13 _))))))))
theorem G_134_13_eq (S : amS) : G_134_13 S = B_134_13 (G_134_13 ) S := ev_uniq (f := fun m n => g_134_13 (n + 1) S) (ev_shift (ev_134_13 S)) (evB_134_13 (N13 := fun m n => g_134_13 n) (fun  S => ev_134_13  S) S)
noncomputable def G_134 (S : amS) : amQ := az_bI (G_132 S) fun x1 S2 => az_st (sI S2 34 27 (S2.1 34 4)) fun S3 => G_134_13 S3
theorem ev_134 (S : amS) : EV (fun m n => g_134 n S) (G_134 S) := by
  unfold g_134 G_134
  exact ev_bI (ev_132 _) (fun _ _ => ev_st (fun _ => ev_134_13 _))
theorem flh_139_7 {n n' : Nat} (hn : n ≤ n') {H7 H7' : Int32 → Int32 → amS → amQ} (hH7 : ∀ a0 a1 S, FL (H7 a0 a1 S) (H7' a0 a1 S)) (l1 : Int32) (l2 : Int32) (S : amS) : FL (h_139_7 n H7 l1 l2 S) (h_139_7 n' H7' l1 l2 S) := by
  unfold h_139_7
  exact fl_ite (fl_refl) (fl_ck (fl_ite (fl_ck (fl_refl)) (hH7 _ _ _)))
theorem fl_139_7 : ∀ {n n' : Nat} (hn : n ≤ n') (l1 : Int32) (l2 : Int32) (S : amS), FL (g_139_7 n l1 l2 S) (g_139_7 n' l1 l2 S)
  | 0, _, _, _, _, _ => fl_none
  | n + 1, 0, h, _, _, _ => absurd h (Nat.not_succ_le_zero n)
  | n + 1, n' + 1, h, l1, l2, S => flh_139_7 (Nat.le_of_succ_le_succ h) (fun a0 a1 S => fl_139_7 (Nat.le_of_succ_le_succ h) a0 a1 S) l1 l2 S
theorem fl_139 {n n' : Nat} (hn : n ≤ n') (l1 : Int32) (S : amS) : FL (g_139 n l1 S) (g_139 n' l1 S) := by
  unfold g_139
  exact fl_st (fun _ => fl_139_7 hn _ _ _)
noncomputable def G_139_7 (l1 : Int32) (l2 : Int32) (S : amS) : amQ := az_lim (fun m n => g_139_7 n l1 l2 S)
theorem ev_139_7 (l1 : Int32) (l2 : Int32) (S : amS) : EV (fun m n => g_139_7 n l1 l2 S) (G_139_7 l1 l2 S) := ev_lim (fun m m' n n' hm hn => fl_139_7 hn l1 l2 S)
noncomputable def B_139_7 (H7 : Int32 → Int32 → amS → amQ) (l1 : Int32) (l2 : Int32) (S : amS) : amQ := if l2 < 0 then some (.inl (some (.int ((-1)))), S) else az_ck l2 256 (if (S.1 50 l2.toNatClampNeg) = l1 then az_ck l2 256 (some (.inl (some (.int (S.1 51 l2.toNatClampNeg))), S)) else H7 l1 (l2 + (-1)) S)
theorem evB_139_7 {N7 : Nat → Nat → Int32 → Int32 → amS → amQ} {H7 : Int32 → Int32 → amS → amQ} (hH7 : ∀ a0 a1 S, EV (fun m n => N7 m n a0 a1 S) (H7 a0 a1 S)) (l1 : Int32) (l2 : Int32) (S : amS) : EV (fun m n => h_139_7 n (N7 m n) l1 l2 S) (B_139_7 H7 l1 l2 S) := by
  unfold h_139_7 B_139_7
  exact ev_ite (ev_c) (ev_ck (ev_ite (ev_ck (ev_c)) (hH7 _ _ _)))
theorem G_139_7_eq (l1 : Int32) (l2 : Int32) (S : amS) : G_139_7 l1 l2 S = B_139_7 (G_139_7 ) l1 l2 S := ev_uniq (f := fun m n => g_139_7 (n + 1) l1 l2 S) (ev_shift (ev_139_7 l1 l2 S)) (evB_139_7 (N7 := fun m n => g_139_7 n) (fun a0 a1 S => ev_139_7 a0 a1 S) l1 l2 S)
noncomputable def G_139 (l1 : Int32) (S : amS) : amQ := az_st ((S.1 34 26) - 1) fun x1 => G_139_7 l1 x1 S
theorem ev_139 (l1 : Int32) (S : amS) : EV (fun m n => g_139 n l1 S) (G_139 l1 S) := by
  unfold g_139 G_139
  exact ev_st (fun _ => ev_139_7 _ _ _)
theorem fl_140_77 {n n' : Nat} (hn : n ≤ n') (l1 : Int32) (l2 : Int32) (S : amS) : FL (g_140_77 n l1 l2 S) (g_140_77 n' l1 l2 S) := by
  unfold g_140_77
  exact fl_ite (fl_bV (fl_refl) (fun _ => fl_refl)) (fl_ck (fl_ck (fl_st (fun _ => fl_ck (fl_st (fun _ => fl_ck (fl_st (fun _ => fl_ck (fl_st (fun _ => fl_st (fun _ => fl_ck (fl_st (fun _ => fl_st (fun _ => fl_ck (fl_ck (fl_st (fun _ => fl_ck (fl_ck (fl_st (fun _ => fl_ck (fl_st (fun _ => fl_refl))))))))))))))))))))))
theorem fl_140_70 {n n' : Nat} (hn : n ≤ n') {H29 H29' : Int32 → Int32 → Int32 → amS → amQ} (hH29 : ∀ a0 a1 a2 S, FL (H29 a0 a1 a2 S) (H29' a0 a1 a2 S)) (l1 : Int32) (l3 : Int32) (s0 : Int32) (S : amS) : FL (g_140_70 n H29 l1 l3 s0 S) (g_140_70 n' H29' l1 l3 s0 S) := by
  unfold g_140_70
  exact hH29 _ _ _ _
theorem flh_140_29 {n n' : Nat} (hn : n ≤ n') {H29 H29' : Int32 → Int32 → Int32 → amS → amQ} (hH29 : ∀ a0 a1 a2 S, FL (H29 a0 a1 a2 S) (H29' a0 a1 a2 S)) (l1 : Int32) (l2 : Int32) (l3 : Int32) (S : amS) : FL (h_140_29 n H29 l1 l2 l3 S) (h_140_29 n' H29' l1 l2 l3 S) := by
  unfold h_140_29
  exact fl_ck (fl_ite (fl_140_77 hn _ _ _) (fl_ite (fl_140_77 hn _ _ _) (fl_ck (fl_ck (fl_ite (fl_140_70 hn hH29 _ _ _ _) (fl_140_70 hn hH29 _ _ _ _))))))
theorem fl_140_29 : ∀ {n n' : Nat} (hn : n ≤ n') (l1 : Int32) (l2 : Int32) (l3 : Int32) (S : amS), FL (g_140_29 n l1 l2 l3 S) (g_140_29 n' l1 l2 l3 S)
  | 0, _, _, _, _, _, _ => fl_none
  | n + 1, 0, h, _, _, _, _ => absurd h (Nat.not_succ_le_zero n)
  | n + 1, n' + 1, h, l1, l2, l3, S => flh_140_29 (Nat.le_of_succ_le_succ h) (fun a0 a1 a2 S => fl_140_29 (Nat.le_of_succ_le_succ h) a0 a1 a2 S) l1 l2 l3 S
theorem fl_140_26 {n n' : Nat} (hn : n ≤ n') (l1 : Int32) (s0 : Int32) (S : amS) : FL (g_140_26 n l1 s0 S) (g_140_26 n' l1 s0 S) := by
  unfold g_140_26
  exact fl_140_29 hn _ _ _ _
theorem fl_140_25 {n n' : Nat} (hn : n ≤ n') (l1 : Int32) (S : amS) : FL (g_140_25 n l1 S) (g_140_25 n' l1 S) := by
  unfold g_140_25
  exact fl_140_26 hn _ _ _
theorem fl_140 {n n' : Nat} (hn : n ≤ n') (l1 : Int32) (S : amS) : FL (g_140 n l1 S) (g_140 n' l1 S) := by
  unfold g_140
  exact fl_bV (fl_134 hn _) (fun _ => fl_bI (fl_refl) (fun _ _ => fl_ite (fl_140_25 hn _ _) (fl_ck (fl_ite (fl_140_25 hn _ _) (fl_140_26 hn _ _ _)))))
noncomputable def G_140_77 (l1 : Int32) (l2 : Int32) (S : amS) : amQ := if l2 = 0 then az_bV (g_131 (S.1 34 27) S) fun S15 => some (.inl none, S15) else az_ck l1 256 (az_ck (S.1 34 27) 250 (az_st (240 + (S.1 44 l1.toNatClampNeg)) fun x2 => az_ck x2 256 (az_st (sI S 50 x2.toNatClampNeg (S.1 35 (S.1 34 27).toNatClampNeg)) fun S3 => az_ck l1 256 (az_st ((4 * l1) + (S3.1 44 l1.toNatClampNeg)) fun x5 => az_ck x5 1024 (az_st (sI S3 43 x5.toNatClampNeg (S3.1 34 19)) fun S6 => az_st (S6.1 34 19) fun x8 => az_ck x8 256 (az_st (sI S6 46 x8.toNatClampNeg (vp_nar .boolean 0)) fun S9 => az_st (sI S9 34 19 ((S9.1 34 19) + 1)) fun S10 => az_ck l1 256 (az_ck l1 256 (az_st (sI S10 44 l1.toNatClampNeg ((S10.1 44 l1.toNatClampNeg) + 1)) fun S11 => az_ck l1 256 (az_ck (S11.1 34 27) 250 (az_st (((4 * (S11.1 34 23)) + (S11.1 44 l1.toNatClampNeg)) - 1) fun x13 => az_ck x13 104 (az_st (sI S11 66 x13.toNatClampNeg (S11.1 35 (S11.1 34 27).toNatClampNeg)) fun S14 => some (.inl none, S14))))))))))))
theorem ev_140_77 (l1 : Int32) (l2 : Int32) (S : amS) : EV (fun m n => g_140_77 n l1 l2 S) (G_140_77 l1 l2 S) := by
  unfold g_140_77 G_140_77
  exact ev_ite (ev_bV (ev_c) (fun _ => ev_c)) (ev_ck (ev_ck (ev_st (fun _ => ev_ck (ev_st (fun _ => ev_ck (ev_st (fun _ => ev_ck (ev_st (fun _ => ev_st (fun _ => ev_ck (ev_st (fun _ => ev_st (fun _ => ev_ck (ev_ck (ev_st (fun _ => ev_ck (ev_ck (ev_st (fun _ => ev_ck (ev_st (fun _ => ev_c))))))))))))))))))))))
noncomputable def G_140_70 (H29 : Int32 → Int32 → Int32 → amS → amQ) (l1 : Int32) (l3 : Int32) (s0 : Int32) (S : amS) : amQ := H29 l1 s0 (l3 + 1) S
theorem ev_140_70 {N29 : Nat → Nat → Int32 → Int32 → Int32 → amS → amQ} {H29 : Int32 → Int32 → Int32 → amS → amQ} (hH29 : ∀ a0 a1 a2 S, EV (fun m n => N29 m n a0 a1 a2 S) (H29 a0 a1 a2 S)) (l1 : Int32) (l3 : Int32) (s0 : Int32) (S : amS) : EV (fun m n => g_140_70 n (N29 m n) l1 l3 s0 S) (G_140_70 H29 l1 l3 s0 S) := by
  unfold g_140_70 G_140_70
  exact hH29 _ _ _ _
noncomputable def G_140_29 (l1 : Int32) (l2 : Int32) (l3 : Int32) (S : amS) : amQ := az_lim (fun m n => g_140_29 n l1 l2 l3 S)
theorem ev_140_29 (l1 : Int32) (l2 : Int32) (l3 : Int32) (S : amS) : EV (fun m n => g_140_29 n l1 l2 l3 S) (G_140_29 l1 l2 l3 S) := ev_lim (fun m m' n n' hm hn => fl_140_29 hn l1 l2 l3 S)
noncomputable def B_140_29 (H29 : Int32 → Int32 → Int32 → amS → amQ) (l1 : Int32) (l2 : Int32) (l3 : Int32) (S : amS) : amQ := az_ck l1 256 (if (S.1 44 l1.toNatClampNeg) ≤ l3 then G_140_77 l1 l2 S else if l2 = 0 then G_140_77 l1 l2 S else az_ck (240 + l3) 256 (az_ck (S.1 34 27) 250 (if (S.1 50 (240 + l3).toNatClampNeg) = (S.1 35 (S.1 34 27).toNatClampNeg) then G_140_70 H29 l1 l3 0 S else G_140_70 H29 l1 l3 1 S)))
theorem evB_140_29 {N29 : Nat → Nat → Int32 → Int32 → Int32 → amS → amQ} {H29 : Int32 → Int32 → Int32 → amS → amQ} (hH29 : ∀ a0 a1 a2 S, EV (fun m n => N29 m n a0 a1 a2 S) (H29 a0 a1 a2 S)) (l1 : Int32) (l2 : Int32) (l3 : Int32) (S : amS) : EV (fun m n => h_140_29 n (N29 m n) l1 l2 l3 S) (B_140_29 H29 l1 l2 l3 S) := by
  unfold h_140_29 B_140_29
  exact ev_ck (ev_ite (ev_140_77 _ _ _) (ev_ite (ev_140_77 _ _ _) (ev_ck (ev_ck (ev_ite (ev_140_70 hH29 _ _ _ _) (ev_140_70 hH29 _ _ _ _))))))
theorem G_140_29_eq (l1 : Int32) (l2 : Int32) (l3 : Int32) (S : amS) : G_140_29 l1 l2 l3 S = B_140_29 (G_140_29 ) l1 l2 l3 S := ev_uniq (f := fun m n => g_140_29 (n + 1) l1 l2 l3 S) (ev_shift (ev_140_29 l1 l2 l3 S)) (evB_140_29 (N29 := fun m n => g_140_29 n) (fun a0 a1 a2 S => ev_140_29 a0 a1 a2 S) l1 l2 l3 S)
noncomputable def G_140_26 (l1 : Int32) (s0 : Int32) (S : amS) : amQ := G_140_29 l1 s0 0 S
theorem ev_140_26 (l1 : Int32) (s0 : Int32) (S : amS) : EV (fun m n => g_140_26 n l1 s0 S) (G_140_26 l1 s0 S) := by
  unfold g_140_26 G_140_26
  exact ev_140_29 _ _ _ _
noncomputable def G_140_25 (l1 : Int32) (S : amS) : amQ := G_140_26 l1 0 S
theorem ev_140_25 (l1 : Int32) (S : amS) : EV (fun m n => g_140_25 n l1 S) (G_140_25 l1 S) := by
  unfold g_140_25 G_140_25
  exact ev_140_26 _ _ _
noncomputable def G_140 (l1 : Int32) (S : amS) : amQ := az_bV (G_134 S) fun S1 => az_bI (g_136 S1) fun x2 S3 => if x2 = 0 then G_140_25 l1 S3 else az_ck l1 256 (if 4 ≤ (S3.1 44 l1.toNatClampNeg) then G_140_25 l1 S3 else G_140_26 l1 1 S3)
theorem ev_140 (l1 : Int32) (S : amS) : EV (fun m n => g_140 n l1 S) (G_140 l1 S) := by
  unfold g_140 G_140
  exact ev_bV (ev_134 _) (fun _ => ev_bI (ev_c) (fun _ _ => ev_ite (ev_140_25 _ _) (ev_ck (ev_ite (ev_140_25 _ _) (ev_140_26 _ _ _)))))
theorem flh_141_2 {n n' : Nat} (hn : n ≤ n') {H2 H2' : Int32 → Int32 → amS → amQ} (hH2 : ∀ a0 a1 S, FL (H2 a0 a1 S) (H2' a0 a1 S)) (l1 : Int32) (l2 : Int32) (S : amS) : FL (h_141_2 n H2 l1 l2 S) (h_141_2 n' H2' l1 l2 S) := by
  unfold h_141_2
  exact fl_ck (fl_ite (fl_refl) (fl_ck (fl_st (fun _ => fl_ck (fl_st (fun _ => hH2 _ _ _))))))
theorem fl_141_2 : ∀ {n n' : Nat} (hn : n ≤ n') (l1 : Int32) (l2 : Int32) (S : amS), FL (g_141_2 n l1 l2 S) (g_141_2 n' l1 l2 S)
  | 0, _, _, _, _, _ => fl_none
  | n + 1, 0, h, _, _, _ => absurd h (Nat.not_succ_le_zero n)
  | n + 1, n' + 1, h, l1, l2, S => flh_141_2 (Nat.le_of_succ_le_succ h) (fun a0 a1 S => fl_141_2 (Nat.le_of_succ_le_succ h) a0 a1 S) l1 l2 S
theorem fl_141 {n n' : Nat} (hn : n ≤ n') (l1 : Int32) (S : amS) : FL (g_141 n l1 S) (g_141 n' l1 S) := by
  unfold g_141
  exact fl_141_2 hn _ _ _
noncomputable def G_141_2 (l1 : Int32) (l2 : Int32) (S : amS) : amQ := az_lim (fun m n => g_141_2 n l1 l2 S)
theorem ev_141_2 (l1 : Int32) (l2 : Int32) (S : amS) : EV (fun m n => g_141_2 n l1 l2 S) (G_141_2 l1 l2 S) := ev_lim (fun m m' n n' hm hn => fl_141_2 hn l1 l2 S)
noncomputable def B_141_2 (H2 : Int32 → Int32 → amS → amQ) (l1 : Int32) (l2 : Int32) (S : amS) : amQ := az_ck l1 256 (if (S.1 44 l1.toNatClampNeg) ≤ l2 then some (.inl none, S) else az_ck ((4 * (S.1 34 23)) + l2) 104 (az_st (240 + l2) fun x2 => az_ck x2 256 (az_st (sI S 50 x2.toNatClampNeg (S.1 66 ((4 * (S.1 34 23)) + l2).toNatClampNeg)) fun S3 => H2 l1 (l2 + 1) S3)))
theorem evB_141_2 {N2 : Nat → Nat → Int32 → Int32 → amS → amQ} {H2 : Int32 → Int32 → amS → amQ} (hH2 : ∀ a0 a1 S, EV (fun m n => N2 m n a0 a1 S) (H2 a0 a1 S)) (l1 : Int32) (l2 : Int32) (S : amS) : EV (fun m n => h_141_2 n (N2 m n) l1 l2 S) (B_141_2 H2 l1 l2 S) := by
  unfold h_141_2 B_141_2
  exact ev_ck (ev_ite (ev_c) (ev_ck (ev_st (fun _ => ev_ck (ev_st (fun _ => hH2 _ _ _))))))
theorem G_141_2_eq (l1 : Int32) (l2 : Int32) (S : amS) : G_141_2 l1 l2 S = B_141_2 (G_141_2 ) l1 l2 S := ev_uniq (f := fun m n => g_141_2 (n + 1) l1 l2 S) (ev_shift (ev_141_2 l1 l2 S)) (evB_141_2 (N2 := fun m n => g_141_2 n) (fun a0 a1 S => ev_141_2 a0 a1 S) l1 l2 S)
noncomputable def G_141 (l1 : Int32) (S : amS) : amQ := G_141_2 l1 0 S
theorem ev_141 (l1 : Int32) (S : amS) : EV (fun m n => g_141 n l1 S) (G_141 l1 S) := by
  unfold g_141 G_141
  exact ev_141_2 _ _ _
theorem flh_142_2 {n n' : Nat} (hn : n ≤ n') {H2 H2' : Int32 → Int32 → amS → amQ} (hH2 : ∀ a0 a1 S, FL (H2 a0 a1 S) (H2' a0 a1 S)) (l1 : Int32) (l2 : Int32) (S : amS) : FL (h_142_2 n H2 l1 l2 S) (h_142_2 n' H2' l1 l2 S) := by
  unfold h_142_2
  exact fl_ck (fl_ite (fl_refl) (fl_ck (fl_st (fun _ => fl_ck (fl_st (fun _ => fl_ck (fl_st (fun _ => fl_ck (fl_st (fun _ => fl_st (fun _ => hH2 _ _ _)))))))))))
theorem fl_142_2 : ∀ {n n' : Nat} (hn : n ≤ n') (l1 : Int32) (l2 : Int32) (S : amS), FL (g_142_2 n l1 l2 S) (g_142_2 n' l1 l2 S)
  | 0, _, _, _, _, _ => fl_none
  | n + 1, 0, h, _, _, _ => absurd h (Nat.not_succ_le_zero n)
  | n + 1, n' + 1, h, l1, l2, S => flh_142_2 (Nat.le_of_succ_le_succ h) (fun a0 a1 S => fl_142_2 (Nat.le_of_succ_le_succ h) a0 a1 S) l1 l2 S
theorem fl_142 {n n' : Nat} (hn : n ≤ n') (l1 : Int32) (S : amS) : FL (g_142 n l1 S) (g_142 n' l1 S) := by
  unfold g_142
  exact fl_142_2 hn _ _ _
noncomputable def G_142_2 (l1 : Int32) (l2 : Int32) (S : amS) : amQ := az_lim (fun m n => g_142_2 n l1 l2 S)
theorem ev_142_2 (l1 : Int32) (l2 : Int32) (S : amS) : EV (fun m n => g_142_2 n l1 l2 S) (G_142_2 l1 l2 S) := ev_lim (fun m m' n n' hm hn => fl_142_2 hn l1 l2 S)
noncomputable def B_142_2 (H2 : Int32 → Int32 → amS → amQ) (l1 : Int32) (l2 : Int32) (S : amS) : amQ := az_ck l1 256 (if (S.1 44 l1.toNatClampNeg) ≤ l2 then some (.inl none, S) else az_ck ((4 * (S.1 34 23)) + l2) 104 (az_st (S.1 34 26) fun x2 => az_ck x2 256 (az_st (sI S 50 x2.toNatClampNeg (S.1 66 ((4 * (S.1 34 23)) + l2).toNatClampNeg)) fun S3 => az_ck ((4 * l1) + l2) 1024 (az_st (S3.1 34 26) fun x5 => az_ck x5 256 (az_st (sI S3 51 x5.toNatClampNeg (S3.1 43 ((4 * l1) + l2).toNatClampNeg)) fun S6 => az_st (sI S6 34 26 ((S6.1 34 26) + 1)) fun S7 => H2 l1 (l2 + 1) S7)))))
theorem evB_142_2 {N2 : Nat → Nat → Int32 → Int32 → amS → amQ} {H2 : Int32 → Int32 → amS → amQ} (hH2 : ∀ a0 a1 S, EV (fun m n => N2 m n a0 a1 S) (H2 a0 a1 S)) (l1 : Int32) (l2 : Int32) (S : amS) : EV (fun m n => h_142_2 n (N2 m n) l1 l2 S) (B_142_2 H2 l1 l2 S) := by
  unfold h_142_2 B_142_2
  exact ev_ck (ev_ite (ev_c) (ev_ck (ev_st (fun _ => ev_ck (ev_st (fun _ => ev_ck (ev_st (fun _ => ev_ck (ev_st (fun _ => ev_st (fun _ => hH2 _ _ _)))))))))))
theorem G_142_2_eq (l1 : Int32) (l2 : Int32) (S : amS) : G_142_2 l1 l2 S = B_142_2 (G_142_2 ) l1 l2 S := ev_uniq (f := fun m n => g_142_2 (n + 1) l1 l2 S) (ev_shift (ev_142_2 l1 l2 S)) (evB_142_2 (N2 := fun m n => g_142_2 n) (fun a0 a1 S => ev_142_2 a0 a1 S) l1 l2 S)
noncomputable def G_142 (l1 : Int32) (S : amS) : amQ := G_142_2 l1 0 S
theorem ev_142 (l1 : Int32) (S : amS) : EV (fun m n => g_142 n l1 S) (G_142 l1 S) := by
  unfold g_142 G_142
  exact ev_142_2 _ _ _
theorem fl_146_443 {n n' : Nat} (hn : n ≤ n') (l5 : Int32) (l6 : Int32) (S : amS) : FL (g_146_443 n l5 l6 S) (g_146_443 n' l5 l6 S) := by
  unfold g_146_443
  exact fl_ck (fl_st (fun _ => fl_refl))
theorem fl_146_417 {n n' : Nat} (hn : n ≤ n') (l5 : Int32) (s0 : Int32) (S : amS) : FL (g_146_417 n l5 s0 S) (g_146_417 n' l5 s0 S) := by
  unfold g_146_417
  exact fl_ite (fl_ck (fl_st (fun _ => fl_146_443 hn _ _ _))) (fl_bV (fl_refl) (fun _ => fl_146_443 hn _ _ _))
theorem fl_146_370 {n n' : Nat} (hn : n ≤ n') (S : amS) : FL (g_146_370 n S) (g_146_370 n' S) := by
  unfold g_146_370
  exact fl_st (fun _ => fl_ck (fl_st (fun _ => fl_refl)))
theorem fl_146_336 {n n' : Nat} (hn : n ≤ n') (l3 : Int32) (l5 : Int32) (S : amS) : FL (g_146_336 n l3 l5 S) (g_146_336 n' l3 l5 S) := by
  unfold g_146_336
  exact fl_ite (fl_ite (fl_ck (fl_st (fun _ => fl_ck (fl_st (fun _ => fl_bV (fl_142 hn _ _) (fun _ => fl_146_370 hn _)))))) (fl_146_370 hn _)) (fl_146_370 hn _)
theorem fl_146_304 {n n' : Nat} (hn : n ≤ n') (l3 : Int32) (l5 : Int32) (S : amS) : FL (g_146_304 n l3 l5 S) (g_146_304 n' l3 l5 S) := by
  unfold g_146_304
  exact fl_bV (fl_133 hn _ _) (fun _ => fl_ite (fl_bV (fl_133 hn _ _) (fun _ => fl_ite (fl_bV (fl_140 hn _ _) (fun _ => fl_146_336 hn _ _ _)) (fl_146_336 hn _ _ _))) (fl_146_370 hn _))
theorem fl_146_267 {n n' : Nat} (hn : n ≤ n') (l5 : Int32) (S : amS) : FL (g_146_267 n l5 S) (g_146_267 n' l5 S) := by
  unfold g_146_267
  exact fl_st (fun _ => fl_ite (fl_bV (fl_142 hn _ _) (fun _ => fl_refl)) (fl_refl))
theorem fl_146_247 {n n' : Nat} (hn : n ≤ n') {H214 H214' : Int32 → amS → amQ} (hH214 : ∀ a0 S, FL (H214 a0 S) (H214' a0 S)) (l5 : Int32) (S : amS) : FL (g_146_247 n H214 l5 S) (g_146_247 n' H214' l5 S) := by
  unfold g_146_247
  exact fl_bV (fl_refl) (fun _ => hH214 _ _)
theorem flh_146_214 {n n' : Nat} (hn : n ≤ n') {H214 H214' : Int32 → amS → amQ} (hH214 : ∀ a0 S, FL (H214 a0 S) (H214' a0 S)) (l5 : Int32) (S : amS) : FL (h_146_214 n H214 l5 S) (h_146_214 n' H214' l5 S) := by
  unfold h_146_214
  exact fl_ite (fl_bI (fl_132 hn _) (fun _ _ => fl_ite (fl_146_267 hn _ _) (fl_bI (fl_132 hn _) (fun _ _ => fl_ite (fl_146_247 hn hH214 _ _) (fl_bI (fl_132 hn _) (fun _ _ => fl_ite (fl_146_247 hn hH214 _ _) (fl_bV (fl_140 hn _ _) (fun _ => hH214 _ _)))))))) (fl_146_267 hn _ _)
theorem fl_146_214 : ∀ {n n' : Nat} (hn : n ≤ n') (l5 : Int32) (S : amS), FL (g_146_214 n l5 S) (g_146_214 n' l5 S)
  | 0, _, _, _, _ => fl_none
  | n + 1, 0, h, _, _ => absurd h (Nat.not_succ_le_zero n)
  | n + 1, n' + 1, h, l5, S => flh_146_214 (Nat.le_of_succ_le_succ h) (fun a0 S => fl_146_214 (Nat.le_of_succ_le_succ h) a0 S) l5 S
theorem fl_146_192 {n n' : Nat} (hn : n ≤ n') (l3 : Int32) (s1 : Int32) (s2 : Int32) (s3 : Int32) (S : amS) : FL (g_146_192 n l3 s1 s2 s3 S) (g_146_192 n' l3 s1 s2 s3 S) := by
  unfold g_146_192
  exact fl_bI (fl_refl) (fun _ _ => fl_bV (fl_refl) (fun _ => fl_ite (fl_bV (fl_133 hn _ _) (fun _ => fl_146_214 hn _ _)) (fl_ite (fl_146_304 hn _ _ _) (fl_ite (fl_146_304 hn _ _ _) (fl_ite (fl_bV (fl_134 hn _) (fun _ => fl_bI (fl_refl) (fun _ _ => fl_ite (fl_146_417 hn _ _ _) (fl_ck (fl_bI (fl_139 hn _ _) (fun _ _ => fl_146_417 hn _ _ _)))))) (fl_refl))))))
theorem fl_146_181 {n n' : Nat} (hn : n ≤ n') (l1 : Int32) (l3 : Int32) (l4 : Int32) (s1 : Int32) (S : amS) : FL (g_146_181 n l1 l3 l4 s1 S) (g_146_181 n' l1 l3 l4 s1 S) := by
  unfold g_146_181
  exact fl_ite (fl_146_192 hn _ _ _ _ _) (fl_146_192 hn _ _ _ _ _)
theorem fl_146_170 {n n' : Nat} (hn : n ≤ n') (l1 : Int32) (l3 : Int32) (l4 : Int32) (S : amS) : FL (g_146_170 n l1 l3 l4 S) (g_146_170 n' l1 l3 l4 S) := by
  unfold g_146_170
  exact fl_ite (fl_146_181 hn _ _ _ _ _) (fl_146_181 hn _ _ _ _ _)
theorem fl_146_106 {n n' : Nat} (hn : n ≤ n') (l1 : Int32) (s0 : Int32) (S : amS) : FL (g_146_106 n l1 s0 S) (g_146_106 n' l1 s0 S) := by
  unfold g_146_106
  exact fl_ite (fl_bV (fl_refl) (fun _ => fl_refl)) (fl_bI (fl_refl) (fun _ _ => fl_bV (fl_refl) (fun _ => fl_ck (fl_ck (fl_bI (fl_139 hn _ _) (fun _ _ => fl_bI (fl_refl) (fun _ _ => fl_bV (fl_refl) (fun _ => fl_refl))))))))
theorem fl_146_105 {n n' : Nat} (hn : n ≤ n') (l1 : Int32) (S : amS) : FL (g_146_105 n l1 S) (g_146_105 n' l1 S) := by
  unfold g_146_105
  exact fl_146_106 hn _ _ _
theorem fl_146 {n n' : Nat} (hn : n ≤ n') (S : amS) : FL (g_146 n S) (g_146 n' S) := by
  unfold g_146
  exact fl_st (fun _ => fl_ite (fl_bV (fl_refl) (fun _ => fl_refl)) (fl_st (fun _ => fl_bI (fl_132 hn _) (fun _ _ => fl_ite (fl_bI (fl_refl) (fun _ _ => fl_bV (fl_refl) (fun _ => fl_refl))) (fl_bV (fl_134 hn _) (fun _ => fl_bI (fl_refl) (fun _ _ => fl_bI (fl_refl) (fun _ _ => fl_ite (fl_146_170 hn _ _ _ _) (fl_ite (fl_146_170 hn _ _ _ _) (fl_bI (fl_refl) (fun _ _ => fl_ite (fl_146_105 hn _ _) (fl_ck (fl_bI (fl_139 hn _ _) (fun _ _ => fl_ite (fl_146_105 hn _ _) (fl_146_106 hn _ _ _)))))))))))))))
noncomputable def G_146_443 (l5 : Int32) (l6 : Int32) (S : amS) : amQ := az_ck l5 256 (az_st (sI S 38 l5.toNatClampNeg l6) fun S1 => some (.inl none, S1))
theorem ev_146_443 (l5 : Int32) (l6 : Int32) (S : amS) : EV (fun m n => g_146_443 n l5 l6 S) (G_146_443 l5 l6 S) := by
  unfold g_146_443 G_146_443
  exact ev_ck (ev_st (fun _ => ev_c))
noncomputable def G_146_417 (l5 : Int32) (s0 : Int32) (S : amS) : amQ := if 0 ≤ s0 then az_ck s0 256 (az_st (sI S 46 s0.toNatClampNeg (vp_nar .boolean 1)) fun S1 => G_146_443 l5 s0 S1) else az_bV (g_131 (S.1 34 27) S) fun S2 => G_146_443 l5 s0 S2
theorem ev_146_417 (l5 : Int32) (s0 : Int32) (S : amS) : EV (fun m n => g_146_417 n l5 s0 S) (G_146_417 l5 s0 S) := by
  unfold g_146_417 G_146_417
  exact ev_ite (ev_ck (ev_st (fun _ => ev_146_443 _ _ _))) (ev_bV (ev_c) (fun _ => ev_146_443 _ _ _))
noncomputable def G_146_370 (S : amS) : amQ := az_st (S.1 34 23) fun x2 => az_ck x2 24 (az_st (sI S 48 x2.toNatClampNeg (vp_nar .boolean 1)) fun S3 => some (.inl none, S3))
theorem ev_146_370 (S : amS) : EV (fun m n => g_146_370 n S) (G_146_370 S) := by
  unfold g_146_370 G_146_370
  exact ev_st (fun _ => ev_ck (ev_st (fun _ => ev_c)))
noncomputable def G_146_336 (l3 : Int32) (l5 : Int32) (S : amS) : amQ := if l3 = 6 then if (S.1 34 5) = 0 then az_ck (4 * l5) 1024 (az_st (S.1 43 (4 * l5).toNatClampNeg) fun x2 => az_ck x2 256 (az_st (sI S 46 x2.toNatClampNeg (vp_nar .boolean 1)) fun S3 => az_bV (G_142 l5 S3) fun S4 => G_146_370 S4)) else G_146_370 S else G_146_370 S
theorem ev_146_336 (l3 : Int32) (l5 : Int32) (S : amS) : EV (fun m n => g_146_336 n l3 l5 S) (G_146_336 l3 l5 S) := by
  unfold g_146_336 G_146_336
  exact ev_ite (ev_ite (ev_ck (ev_st (fun _ => ev_ck (ev_st (fun _ => ev_bV (ev_142 _ _) (fun _ => ev_146_370 _)))))) (ev_146_370 _)) (ev_146_370 _)
noncomputable def G_146_304 (l3 : Int32) (l5 : Int32) (S : amS) : amQ := az_bV (G_133 40 S) fun S1 => if (S1.1 34 5) = 0 then az_bV (G_133 40 S1) fun S2 => if (S2.1 34 5) = 0 then az_bV (G_140 l5 S2) fun S3 => G_146_336 l3 l5 S3 else G_146_336 l3 l5 S2 else G_146_370 S1
theorem ev_146_304 (l3 : Int32) (l5 : Int32) (S : amS) : EV (fun m n => g_146_304 n l3 l5 S) (G_146_304 l3 l5 S) := by
  unfold g_146_304 G_146_304
  exact ev_bV (ev_133 _ _) (fun _ => ev_ite (ev_bV (ev_133 _ _) (fun _ => ev_ite (ev_bV (ev_140 _ _) (fun _ => ev_146_336 _ _ _)) (ev_146_336 _ _ _))) (ev_146_370 _))
noncomputable def G_146_267 (l5 : Int32) (S : amS) : amQ := az_st (sI S 34 4 ((S.1 34 4) + 1)) fun S1 => if (S1.1 34 5) = 0 then az_bV (G_142 l5 S1) fun S2 => some (.inl none, S2) else some (.inl none, S1)
theorem ev_146_267 (l5 : Int32) (S : amS) : EV (fun m n => g_146_267 n l5 S) (G_146_267 l5 S) := by
  unfold g_146_267 G_146_267
  exact ev_st (fun _ => ev_ite (ev_bV (ev_142 _ _) (fun _ => ev_c)) (ev_c))
noncomputable def G_146_247 (H214 : Int32 → amS → amQ) (l5 : Int32) (S : amS) : amQ := az_bV (g_131 (S.1 34 4) S) fun S1 => H214 l5 S1
theorem ev_146_247 {N214 : Nat → Nat → Int32 → amS → amQ} {H214 : Int32 → amS → amQ} (hH214 : ∀ a0 S, EV (fun m n => N214 m n a0 S) (H214 a0 S)) (l5 : Int32) (S : amS) : EV (fun m n => g_146_247 n (N214 m n) l5 S) (G_146_247 H214 l5 S) := by
  unfold g_146_247 G_146_247
  exact ev_bV (ev_c) (fun _ => hH214 _ _)
noncomputable def G_146_214 (l5 : Int32) (S : amS) : amQ := az_lim (fun m n => g_146_214 n l5 S)
theorem ev_146_214 (l5 : Int32) (S : amS) : EV (fun m n => g_146_214 n l5 S) (G_146_214 l5 S) := ev_lim (fun m m' n n' hm hn => fl_146_214 hn l5 S)
noncomputable def B_146_214 (H214 : Int32 → amS → amQ) (l5 : Int32) (S : amS) : amQ := if (S.1 34 5) = 0 then az_bI (G_132 S) fun x1 S2 => if x1 = 41 then G_146_267 l5 S2 else az_bI (G_132 S2) fun x3 S4 => if x3 = 40 then G_146_247 H214 l5 S4 else az_bI (G_132 S4) fun x5 S6 => if x5 = ((-1)) then G_146_247 H214 l5 S6 else az_bV (G_140 l5 S6) fun S7 => H214 l5 S7 else G_146_267 l5 S
theorem evB_146_214 {N214 : Nat → Nat → Int32 → amS → amQ} {H214 : Int32 → amS → amQ} (hH214 : ∀ a0 S, EV (fun m n => N214 m n a0 S) (H214 a0 S)) (l5 : Int32) (S : amS) : EV (fun m n => h_146_214 n (N214 m n) l5 S) (B_146_214 H214 l5 S) := by
  unfold h_146_214 B_146_214
  exact ev_ite (ev_bI (ev_132 _) (fun _ _ => ev_ite (ev_146_267 _ _) (ev_bI (ev_132 _) (fun _ _ => ev_ite (ev_146_247 hH214 _ _) (ev_bI (ev_132 _) (fun _ _ => ev_ite (ev_146_247 hH214 _ _) (ev_bV (ev_140 _ _) (fun _ => hH214 _ _)))))))) (ev_146_267 _ _)
theorem G_146_214_eq (l5 : Int32) (S : amS) : G_146_214 l5 S = B_146_214 (G_146_214 ) l5 S := ev_uniq (f := fun m n => g_146_214 (n + 1) l5 S) (ev_shift (ev_146_214 l5 S)) (evB_146_214 (N214 := fun m n => g_146_214 n) (fun a0 S => ev_146_214 a0 S) l5 S)
noncomputable def G_146_192 (l3 : Int32) (s1 : Int32) (s2 : Int32) (s3 : Int32) (S : amS) : amQ := az_bI (g_137 s1 s2 s3 S) fun x1 S2 => az_bV (g_145 x1 S2) fun S3 => if l3 = 3 then az_bV (G_133 40 S3) fun S9 => G_146_214 x1 S9 else if l3 = 5 then G_146_304 l3 x1 S3 else if l3 = 6 then G_146_304 l3 x1 S3 else if l3 = 7 then az_bV (G_134 S3) fun S4 => az_bI (g_136 S4) fun x5 S6 => if x5 = 0 then G_146_417 x1 ((-1)) S6 else az_ck (S6.1 34 27) 250 (az_bI (G_139 (S6.1 35 (S6.1 34 27).toNatClampNeg) S6) fun x7 S8 => G_146_417 x1 x7 S8) else some (.inl none, S3)
theorem ev_146_192 (l3 : Int32) (s1 : Int32) (s2 : Int32) (s3 : Int32) (S : amS) : EV (fun m n => g_146_192 n l3 s1 s2 s3 S) (G_146_192 l3 s1 s2 s3 S) := by
  unfold g_146_192 G_146_192
  exact ev_bI (ev_c) (fun _ _ => ev_bV (ev_c) (fun _ => ev_ite (ev_bV (ev_133 _ _) (fun _ => ev_146_214 _ _)) (ev_ite (ev_146_304 _ _ _) (ev_ite (ev_146_304 _ _ _) (ev_ite (ev_bV (ev_134 _) (fun _ => ev_bI (ev_c) (fun _ _ => ev_ite (ev_146_417 _ _ _) (ev_ck (ev_bI (ev_139 _ _) (fun _ _ => ev_146_417 _ _ _)))))) (ev_c))))))
noncomputable def G_146_181 (l1 : Int32) (l3 : Int32) (l4 : Int32) (s1 : Int32) (S : amS) : amQ := if 0 ≤ l3 then G_146_192 l3 s1 l1 0 S else G_146_192 l3 s1 l1 l4 S
theorem ev_146_181 (l1 : Int32) (l3 : Int32) (l4 : Int32) (s1 : Int32) (S : amS) : EV (fun m n => g_146_181 n l1 l3 l4 s1 S) (G_146_181 l1 l3 l4 s1 S) := by
  unfold g_146_181 G_146_181
  exact ev_ite (ev_146_192 _ _ _ _ _) (ev_146_192 _ _ _ _ _)
noncomputable def G_146_170 (l1 : Int32) (l3 : Int32) (l4 : Int32) (S : amS) : amQ := if 0 ≤ l3 then G_146_181 l1 l3 l4 l3 S else G_146_181 l1 l3 l4 9 S
theorem ev_146_170 (l1 : Int32) (l3 : Int32) (l4 : Int32) (S : amS) : EV (fun m n => g_146_170 n l1 l3 l4 S) (G_146_170 l1 l3 l4 S) := by
  unfold g_146_170 G_146_170
  exact ev_ite (ev_146_181 _ _ _ _ _) (ev_146_181 _ _ _ _ _)
noncomputable def G_146_106 (l1 : Int32) (s0 : Int32) (S : amS) : amQ := if s0 = 0 then az_bV (g_131 (S.1 34 27) S) fun S9 => some (.inl none, S9) else az_bI (g_137 10 l1 0 S) fun x1 S2 => az_bV (g_145 x1 S2) fun S3 => az_ck (S3.1 34 23) 24 (az_ck (S3.1 34 27) 250 (az_bI (G_139 (S3.1 35 (S3.1 34 27).toNatClampNeg) S3) fun x4 S5 => az_bI (g_137 2 (S3.1 34 27) x4 S5) fun x6 S7 => az_bV (g_138 (S3.1 47 (S3.1 34 23).toNatClampNeg) x6 S7) fun S8 => some (.inl none, S8)))
theorem ev_146_106 (l1 : Int32) (s0 : Int32) (S : amS) : EV (fun m n => g_146_106 n l1 s0 S) (G_146_106 l1 s0 S) := by
  unfold g_146_106 G_146_106
  exact ev_ite (ev_bV (ev_c) (fun _ => ev_c)) (ev_bI (ev_c) (fun _ _ => ev_bV (ev_c) (fun _ => ev_ck (ev_ck (ev_bI (ev_139 _ _) (fun _ _ => ev_bI (ev_c) (fun _ _ => ev_bV (ev_c) (fun _ => ev_c))))))))
noncomputable def G_146_105 (l1 : Int32) (S : amS) : amQ := G_146_106 l1 0 S
theorem ev_146_105 (l1 : Int32) (S : amS) : EV (fun m n => g_146_105 n l1 S) (G_146_105 l1 S) := by
  unfold g_146_105 G_146_105
  exact ev_146_106 _ _ _
noncomputable def G_146 (S : amS) : amQ := az_st (S.1 34 4) fun x1 => if (S.1 34 23) = 20 then az_bV (g_131 x1 S) fun S17 => some (.inl none, S17) else az_st (sI S 34 4 ((S.1 34 4) + 1)) fun S2 => az_bI (G_132 S2) fun x3 S4 => if x3 = 40 then az_bI (g_137 10 x1 0 S4) fun x14 S15 => az_bV (g_145 x14 S15) fun S16 => some (.inl none, S16) else az_bV (G_134 S4) fun S5 => az_bI (g_143 S5) fun x6 S7 => az_bI (g_144 S7) fun x8 S9 => if 0 ≤ x6 then G_146_170 x1 x6 x8 S9 else if 0 ≤ x8 then G_146_170 x1 x6 x8 S9 else az_bI (g_136 S9) fun x10 S11 => if x10 = 0 then G_146_105 x1 S11 else az_ck (S11.1 34 27) 250 (az_bI (G_139 (S11.1 35 (S11.1 34 27).toNatClampNeg) S11) fun x12 S13 => if x12 < 0 then G_146_105 x1 S13 else G_146_106 x1 1 S13)
theorem ev_146 (S : amS) : EV (fun m n => g_146 n S) (G_146 S) := by
  unfold g_146 G_146
  exact ev_st (fun _ => ev_ite (ev_bV (ev_c) (fun _ => ev_c)) (ev_st (fun _ => ev_bI (ev_132 _) (fun _ _ => ev_ite (ev_bI (ev_c) (fun _ _ => ev_bV (ev_c) (fun _ => ev_c))) (ev_bV (ev_134 _) (fun _ => ev_bI (ev_c) (fun _ _ => ev_bI (ev_c) (fun _ _ => ev_ite (ev_146_170 _ _ _ _) (ev_ite (ev_146_170 _ _ _ _) (ev_bI (ev_c) (fun _ _ => ev_ite (ev_146_105 _ _) (ev_ck (ev_bI (ev_139 _ _) (fun _ _ => ev_ite (ev_146_105 _ _) (ev_146_106 _ _ _)))))))))))))))
theorem fl_150_134 {n n' : Nat} (hn : n ≤ n') (l2 : Int32) (S : amS) : FL (g_150_134 n l2 S) (g_150_134 n' l2 S) := by
  unfold g_150_134
  exact fl_bV (fl_133 hn _ _) (fun _ => fl_st (fun _ => fl_ck (fl_st (fun _ => fl_ck (fl_ite (fl_bV (fl_142 hn _ _) (fun _ => fl_refl)) (fl_refl))))))
theorem fl_150_61 {n n' : Nat} (hn : n ≤ n') (l2 : Int32) (S : amS) : FL (g_150_61 n l2 S) (g_150_61 n' l2 S) := by
  unfold g_150_61
  exact fl_bV (fl_133 hn _ _) (fun _ => fl_ite (fl_ck (fl_ite (fl_bI (fl_132 hn _) (fun _ _ => fl_ite (fl_ck (fl_ite (fl_bV (fl_refl) (fun _ => fl_refl)) (fl_st (fun _ => fl_bV (fl_141 hn _ _) (fun _ => fl_bV (fl_140 hn _ _) (fun _ => fl_refl)))))) (fl_150_134 hn _ _))) (fl_150_134 hn _ _))) (fl_refl))
theorem fl_150 {n n' : Nat} (hn : n ≤ n') (l1 : Int32) (S : amS) : FL (g_150 n l1 S) (g_150 n' l1 S) := by
  unfold g_150
  exact fl_ck (fl_st (fun _ => fl_bV (fl_refl) (fun _ => fl_ck (fl_ite (fl_refl) (fl_ck (fl_ite (fl_ck (fl_ite (fl_150_61 hn _ _) (fl_ck (fl_bV (fl_refl) (fun _ => fl_refl))))) (fl_150_61 hn _ _)))))))
noncomputable def G_150_134 (l2 : Int32) (S : amS) : amQ := az_bV (G_133 41 S) fun S1 => az_st (S1.1 34 23) fun x3 => az_ck x3 24 (az_st (sI S1 48 x3.toNatClampNeg (vp_nar .boolean 0)) fun S4 => az_ck l2 256 (if (S4.1 36 l2.toNatClampNeg) = 5 then az_bV (G_142 l2 S4) fun S5 => some (.inl none, S5) else some (.inl none, S4)))
theorem ev_150_134 (l2 : Int32) (S : amS) : EV (fun m n => g_150_134 n l2 S) (G_150_134 l2 S) := by
  unfold g_150_134 G_150_134
  exact ev_bV (ev_133 _ _) (fun _ => ev_st (fun _ => ev_ck (ev_st (fun _ => ev_ck (ev_ite (ev_bV (ev_142 _ _) (fun _ => ev_c)) (ev_c))))))
noncomputable def G_150_61 (l2 : Int32) (S : amS) : amQ := az_bV (G_133 41 S) fun S1 => if (S1.1 34 5) = 0 then az_ck l2 256 (if (S1.1 36 l2.toNatClampNeg) = 5 then az_bI (G_132 S1) fun x2 S3 => if x2 = 40 then az_ck l2 256 (if (S3.1 44 l2.toNatClampNeg) = 4 then az_bV (g_131 (S3.1 34 4) S3) fun S7 => some (.inl none, S7) else az_st (sI S3 34 4 ((S3.1 34 4) + 1)) fun S4 => az_bV (G_141 l2 S4) fun S5 => az_bV (G_140 l2 S5) fun S6 => some (.inl none, S6)) else G_150_134 l2 S3 else G_150_134 l2 S1) else some (.inl none, S1)
theorem ev_150_61 (l2 : Int32) (S : amS) : EV (fun m n => g_150_61 n l2 S) (G_150_61 l2 S) := by
  unfold g_150_61 G_150_61
  exact ev_bV (ev_133 _ _) (fun _ => ev_ite (ev_ck (ev_ite (ev_bI (ev_132 _) (fun _ _ => ev_ite (ev_ck (ev_ite (ev_bV (ev_c) (fun _ => ev_c)) (ev_st (fun _ => ev_bV (ev_141 _ _) (fun _ => ev_bV (ev_140 _ _) (fun _ => ev_c)))))) (ev_150_134 _ _))) (ev_150_134 _ _))) (ev_c))
noncomputable def G_150 (l1 : Int32) (S : amS) : amQ := az_ck (S.1 34 23) 24 (az_st (S.1 47 (S.1 34 23).toNatClampNeg) fun x1 => az_bV (g_138 x1 l1 S) fun S2 => az_ck (S2.1 34 23) 24 (if (S2.1 48 (S2.1 34 23).toNatClampNeg) = 0 then some (.inl none, S2) else az_ck x1 256 (if (S2.1 36 x1.toNatClampNeg) = 6 then az_ck l1 256 (if (S2.1 36 l1.toNatClampNeg) = 3 then G_150_61 x1 S2 else az_ck l1 256 (az_bV (g_131 (S2.1 37 l1.toNatClampNeg) S2) fun S3 => some (.inl none, S3))) else G_150_61 x1 S2)))
theorem ev_150 (l1 : Int32) (S : amS) : EV (fun m n => g_150 n l1 S) (G_150 l1 S) := by
  unfold g_150 G_150
  exact ev_ck (ev_st (fun _ => ev_bV (ev_c) (fun _ => ev_ck (ev_ite (ev_c) (ev_ck (ev_ite (ev_ck (ev_ite (ev_150_61 _ _) (ev_ck (ev_bV (ev_c) (fun _ => ev_c))))) (ev_150_61 _ _)))))))
theorem fl_151_262 {n n' : Nat} (hn : n ≤ n') (S : amS) : FL (g_151_262 n S) (g_151_262 n' S) := by
  unfold g_151_262
  exact fl_bV (fl_refl) (fun _ => fl_refl)
theorem fl_151_177 {n n' : Nat} (hn : n ≤ n') (S : amS) : FL (g_151_177 n S) (g_151_177 n' S) := by
  unfold g_151_177
  exact fl_bI (fl_refl) (fun _ _ => fl_ite (fl_bI (fl_refl) (fun _ _ => fl_ite (fl_151_262 hn _) (fl_ck (fl_bI (fl_139 hn _ _) (fun _ _ => fl_ite (fl_151_262 hn _) (fl_ck (fl_bI (fl_139 hn _ _) (fun _ _ => fl_bI (fl_refl) (fun _ _ => fl_bV (fl_150 hn _ _) (fun _ => fl_refl)))))))))) (fl_bI (fl_refl) (fun _ _ => fl_bV (fl_150 hn _ _) (fun _ => fl_refl))))
theorem fl_151_168 {n n' : Nat} (hn : n ≤ n') (s2 : Int32) (s3 : Int32) (s4 : Int32) (S : amS) : FL (g_151_168 n s2 s3 s4 S) (g_151_168 n' s2 s3 s4 S) := by
  unfold g_151_168
  exact fl_bI (fl_refl) (fun _ _ => fl_bV (fl_150 hn _ _) (fun _ => fl_refl))
theorem fl_151_137 {n n' : Nat} (hn : n ≤ n') (l1 : Int32) (l2 : Int32) (l3 : Int32) (l4 : Int32) (S : amS) : FL (g_151_137 n l1 l2 l3 l4 S) (g_151_137 n' l1 l2 l3 l4 S) := by
  unfold g_151_137
  exact fl_ite (fl_151_177 hn _) (fl_ite (fl_ite (fl_151_168 hn _ _ _ _) (fl_151_168 hn _ _ _ _)) (fl_151_177 hn _))
theorem fl_151_117 {n n' : Nat} (hn : n ≤ n') (l1 : Int32) (l2 : Int32) (l3 : Int32) (l4 : Int32) (S : amS) : FL (g_151_117 n l1 l2 l3 l4 S) (g_151_117 n' l1 l2 l3 l4 S) := by
  unfold g_151_117
  exact fl_ite (fl_151_137 hn _ _ _ _ _) (fl_ite (fl_151_137 hn _ _ _ _ _) (fl_bV (fl_refl) (fun _ => fl_refl)))
theorem flh_151_61 {n n' : Nat} (hn : n ≤ n') {H61 H61' : Int32 → Int32 → Int32 → Int32 → amS → amQ} (hH61 : ∀ a0 a1 a2 a3 S, FL (H61 a0 a1 a2 a3 S) (H61' a0 a1 a2 a3 S)) (l1 : Int32) (l2 : Int32) (l3 : Int32) (l4 : Int32) (S : amS) : FL (h_151_61 n H61 l1 l2 l3 l4 S) (h_151_61 n' H61' l1 l2 l3 l4 S) := by
  unfold h_151_61
  exact fl_ite (fl_151_117 hn _ _ _ _ _) (fl_ck (fl_bI (fl_refl) (fun _ _ => fl_ite (fl_151_117 hn _ _ _ _ _) (fl_ite (fl_151_117 hn _ _ _ _ _) (fl_ck (fl_st (fun _ => hH61 _ _ _ _ _)))))))
theorem fl_151_61 : ∀ {n n' : Nat} (hn : n ≤ n') (l1 : Int32) (l2 : Int32) (l3 : Int32) (l4 : Int32) (S : amS), FL (g_151_61 n l1 l2 l3 l4 S) (g_151_61 n' l1 l2 l3 l4 S)
  | 0, _, _, _, _, _, _, _ => fl_none
  | n + 1, 0, h, _, _, _, _, _ => absurd h (Nat.not_succ_le_zero n)
  | n + 1, n' + 1, h, l1, l2, l3, l4, S => flh_151_61 (Nat.le_of_succ_le_succ h) (fun a0 a1 a2 a3 S => fl_151_61 (Nat.le_of_succ_le_succ h) a0 a1 a2 a3 S) l1 l2 l3 l4 S
theorem fl_151_55 {n n' : Nat} (hn : n ≤ n') (l2 : Int32) (s0 : Int32) (S : amS) : FL (g_151_55 n l2 s0 S) (g_151_55 n' l2 s0 S) := by
  unfold g_151_55
  exact fl_151_61 hn _ _ _ _ _
theorem fl_151_43 {n n' : Nat} (hn : n ≤ n') (l1 : Int32) (s0 : Int32) (S : amS) : FL (g_151_43 n l1 s0 S) (g_151_43 n' l1 s0 S) := by
  unfold g_151_43
  exact fl_ite (fl_151_55 hn _ _ _) (fl_151_55 hn _ _ _)
theorem fl_151_42 {n n' : Nat} (hn : n ≤ n') (l1 : Int32) (S : amS) : FL (g_151_42 n l1 S) (g_151_42 n' l1 S) := by
  unfold g_151_42
  exact fl_151_43 hn _ _ _
theorem fl_151 {n n' : Nat} (hn : n ≤ n') (S : amS) : FL (g_151 n S) (g_151 n' S) := by
  unfold g_151
  exact fl_bV (fl_134 hn _) (fun _ => fl_st (fun _ => fl_ite (fl_151_42 hn _ _) (fl_ck (fl_ite (fl_ite (fl_151_42 hn _ _) (fl_151_43 hn _ _ _)) (fl_151_42 hn _ _)))))
noncomputable def G_151_262 (S : amS) : amQ := az_bV (g_131 (S.1 34 27) S) fun S1 => some (.inl none, S1)
theorem ev_151_262 (S : amS) : EV (fun m n => g_151_262 n S) (G_151_262 S) := by
  unfold g_151_262 G_151_262
  exact ev_bV (ev_c) (fun _ => ev_c)
noncomputable def G_151_177 (S : amS) : amQ := az_bI (g_135 110 105 108 0 0 0 S) fun x1 S2 => if x1 = 0 then az_bI (g_136 S2) fun x3 S4 => if x3 = 0 then G_151_262 S4 else az_ck (S4.1 34 27) 250 (az_bI (G_139 (S4.1 35 (S4.1 34 27).toNatClampNeg) S4) fun x5 S6 => if x5 < 0 then G_151_262 S6 else az_ck (S6.1 34 27) 250 (az_bI (G_139 (S6.1 35 (S6.1 34 27).toNatClampNeg) S6) fun x7 S8 => az_bI (g_137 2 (S6.1 34 27) x7 S8) fun x9 S10 => az_bV (G_150 x9 S10) fun S11 => some (.inl none, S11))) else az_bI (g_137 1 (S2.1 34 27) 0 S2) fun x12 S13 => az_bV (G_150 x12 S13) fun S14 => some (.inl none, S14)
theorem ev_151_177 (S : amS) : EV (fun m n => g_151_177 n S) (G_151_177 S) := by
  unfold g_151_177 G_151_177
  exact ev_bI (ev_c) (fun _ _ => ev_ite (ev_bI (ev_c) (fun _ _ => ev_ite (ev_151_262 _) (ev_ck (ev_bI (ev_139 _ _) (fun _ _ => ev_ite (ev_151_262 _) (ev_ck (ev_bI (ev_139 _ _) (fun _ _ => ev_bI (ev_c) (fun _ _ => ev_bV (ev_150 _ _) (fun _ => ev_c)))))))))) (ev_bI (ev_c) (fun _ _ => ev_bV (ev_150 _ _) (fun _ => ev_c))))
noncomputable def G_151_168 (s2 : Int32) (s3 : Int32) (s4 : Int32) (S : amS) : amQ := az_bI (g_137 s2 s3 s4 S) fun x1 S2 => az_bV (G_150 x1 S2) fun S3 => some (.inl none, S3)
theorem ev_151_168 (s2 : Int32) (s3 : Int32) (s4 : Int32) (S : amS) : EV (fun m n => g_151_168 n s2 s3 s4 S) (G_151_168 s2 s3 s4 S) := by
  unfold g_151_168 G_151_168
  exact ev_bI (ev_c) (fun _ _ => ev_bV (ev_150 _ _) (fun _ => ev_c))
noncomputable def G_151_137 (l1 : Int32) (l2 : Int32) (l3 : Int32) (l4 : Int32) (S : amS) : amQ := if l3 ≤ 0 then G_151_177 S else if l1 = (S.1 34 28) then if l2 = 0 then G_151_168 0 (S.1 34 27) l4 S else G_151_168 0 (S.1 34 27) (-l4) S else G_151_177 S
theorem ev_151_137 (l1 : Int32) (l2 : Int32) (l3 : Int32) (l4 : Int32) (S : amS) : EV (fun m n => g_151_137 n l1 l2 l3 l4 S) (G_151_137 l1 l2 l3 l4 S) := by
  unfold g_151_137 G_151_137
  exact ev_ite (ev_151_177 _) (ev_ite (ev_ite (ev_151_168 _ _ _ _) (ev_151_168 _ _ _ _)) (ev_151_177 _))
noncomputable def G_151_117 (l1 : Int32) (l2 : Int32) (l3 : Int32) (l4 : Int32) (S : amS) : amQ := if l3 ≤ 0 then G_151_137 l1 l2 l3 l4 S else if (S.1 34 28) ≤ l1 then G_151_137 l1 l2 l3 l4 S else az_bV (g_131 l1 S) fun S1 => some (.inl none, S1)
theorem ev_151_117 (l1 : Int32) (l2 : Int32) (l3 : Int32) (l4 : Int32) (S : amS) : EV (fun m n => g_151_117 n l1 l2 l3 l4 S) (G_151_117 l1 l2 l3 l4 S) := by
  unfold g_151_117 G_151_117
  exact ev_ite (ev_151_137 _ _ _ _ _) (ev_ite (ev_151_137 _ _ _ _ _) (ev_bV (ev_c) (fun _ => ev_c)))
noncomputable def G_151_61 (l1 : Int32) (l2 : Int32) (l3 : Int32) (l4 : Int32) (S : amS) : amQ := az_lim (fun m n => g_151_61 n l1 l2 l3 l4 S)
theorem ev_151_61 (l1 : Int32) (l2 : Int32) (l3 : Int32) (l4 : Int32) (S : amS) : EV (fun m n => g_151_61 n l1 l2 l3 l4 S) (G_151_61 l1 l2 l3 l4 S) := ev_lim (fun m m' n n' hm hn => fl_151_61 hn l1 l2 l3 l4 S)
noncomputable def B_151_61 (H61 : Int32 → Int32 → Int32 → Int32 → amS → amQ) (l1 : Int32) (l2 : Int32) (l3 : Int32) (l4 : Int32) (S : amS) : amQ := if (S.1 34 28) ≤ l1 then G_151_117 l1 l2 l3 l4 S else az_ck l1 250 (az_bI (g_129 (S.1 35 l1.toNatClampNeg) 48 57 S) fun x1 S2 => if x1 = 0 then G_151_117 l1 l2 l3 l4 S2 else if 9 ≤ l3 then G_151_117 l1 l2 l3 l4 S2 else az_ck l1 250 (az_st (((10 * l4) + (S2.1 35 l1.toNatClampNeg)) - 48) fun x3 => H61 (l1 + 1) l2 (l3 + 1) x3 S2))
theorem evB_151_61 {N61 : Nat → Nat → Int32 → Int32 → Int32 → Int32 → amS → amQ} {H61 : Int32 → Int32 → Int32 → Int32 → amS → amQ} (hH61 : ∀ a0 a1 a2 a3 S, EV (fun m n => N61 m n a0 a1 a2 a3 S) (H61 a0 a1 a2 a3 S)) (l1 : Int32) (l2 : Int32) (l3 : Int32) (l4 : Int32) (S : amS) : EV (fun m n => h_151_61 n (N61 m n) l1 l2 l3 l4 S) (B_151_61 H61 l1 l2 l3 l4 S) := by
  unfold h_151_61 B_151_61
  exact ev_ite (ev_151_117 _ _ _ _ _) (ev_ck (ev_bI (ev_c) (fun _ _ => ev_ite (ev_151_117 _ _ _ _ _) (ev_ite (ev_151_117 _ _ _ _ _) (ev_ck (ev_st (fun _ => hH61 _ _ _ _ _)))))))
theorem G_151_61_eq (l1 : Int32) (l2 : Int32) (l3 : Int32) (l4 : Int32) (S : amS) : G_151_61 l1 l2 l3 l4 S = B_151_61 (G_151_61 ) l1 l2 l3 l4 S := ev_uniq (f := fun m n => g_151_61 (n + 1) l1 l2 l3 l4 S) (ev_shift (ev_151_61 l1 l2 l3 l4 S)) (evB_151_61 (N61 := fun m n => g_151_61 n) (fun a0 a1 a2 a3 S => ev_151_61 a0 a1 a2 a3 S) l1 l2 l3 l4 S)
noncomputable def G_151_55 (l2 : Int32) (s0 : Int32) (S : amS) : amQ := G_151_61 s0 l2 0 0 S
theorem ev_151_55 (l2 : Int32) (s0 : Int32) (S : amS) : EV (fun m n => g_151_55 n l2 s0 S) (G_151_55 l2 s0 S) := by
  unfold g_151_55 G_151_55
  exact ev_151_61 _ _ _ _ _
noncomputable def G_151_43 (l1 : Int32) (s0 : Int32) (S : amS) : amQ := if s0 = 0 then G_151_55 s0 l1 S else G_151_55 s0 (l1 + 1) S
theorem ev_151_43 (l1 : Int32) (s0 : Int32) (S : amS) : EV (fun m n => g_151_43 n l1 s0 S) (G_151_43 l1 s0 S) := by
  unfold g_151_43 G_151_43
  exact ev_ite (ev_151_55 _ _ _) (ev_151_55 _ _ _)
noncomputable def G_151_42 (l1 : Int32) (S : amS) : amQ := G_151_43 l1 0 S
theorem ev_151_42 (l1 : Int32) (S : amS) : EV (fun m n => g_151_42 n l1 S) (G_151_42 l1 S) := by
  unfold g_151_42 G_151_42
  exact ev_151_43 _ _ _
noncomputable def G_151 (S : amS) : amQ := az_bV (G_134 S) fun S1 => az_st (S1.1 34 27) fun x2 => if (S1.1 34 28) ≤ x2 then G_151_42 x2 S1 else az_ck x2 250 (if (S1.1 35 x2.toNatClampNeg) = 45 then if (S1.1 34 28) ≤ (x2 + 1) then G_151_42 x2 S1 else G_151_43 x2 1 S1 else G_151_42 x2 S1)
theorem ev_151 (S : amS) : EV (fun m n => g_151 n S) (G_151 S) := by
  unfold g_151 G_151
  exact ev_bV (ev_134 _) (fun _ => ev_st (fun _ => ev_ite (ev_151_42 _ _) (ev_ck (ev_ite (ev_ite (ev_151_42 _ _) (ev_151_43 _ _ _)) (ev_151_42 _ _)))))
theorem fl_152_322 {n n' : Nat} (hn : n ≤ n') {H58 H58' : Int32 → amS → amQ} (hH58 : ∀ a0 S, FL (H58 a0 S) (H58' a0 S)) (l1 : Int32) (S : amS) : FL (g_152_322 n H58 l1 S) (g_152_322 n' H58' l1 S) := by
  unfold g_152_322
  exact hH58 _ _
theorem fl_152_237 {n n' : Nat} (hn : n ≤ n') {H58 H58' : Int32 → amS → amQ} (hH58 : ∀ a0 S, FL (H58 a0 S) (H58' a0 S)) (l1 : Int32) (S : amS) : FL (g_152_237 n H58 l1 S) (g_152_237 n' H58' l1 S) := by
  unfold g_152_237
  exact fl_bV (fl_refl) (fun _ => fl_152_322 hn hH58 _ _)
theorem fl_152_208 {n n' : Nat} (hn : n ≤ n') {H58 H58' : Int32 → amS → amQ} (hH58 : ∀ a0 S, FL (H58 a0 S) (H58' a0 S)) (l1 : Int32) (S : amS) : FL (g_152_208 n H58 l1 S) (g_152_208 n' H58' l1 S) := by
  unfold g_152_208
  exact fl_bV (fl_refl) (fun _ => fl_152_322 hn hH58 _ _)
theorem fl_152_183 {n n' : Nat} (hn : n ≤ n') {H58 H58' : Int32 → amS → amQ} (hH58 : ∀ a0 S, FL (H58 a0 S) (H58' a0 S)) (l1 : Int32) (l2 : Int32) (l3 : Int32) (l5 : Int32) (s0 : Int32) (S : amS) : FL (g_152_183 n H58 l1 l2 l3 l5 s0 S) (g_152_183 n' H58' l1 l2 l3 l5 s0 S) := by
  unfold g_152_183
  exact fl_ite (fl_ite (fl_152_208 hn hH58 _ _) (fl_ck (fl_ite (fl_152_208 hn hH58 _ _) (fl_152_322 hn hH58 _ _)))) (fl_ite (fl_ite (fl_152_237 hn hH58 _ _) (fl_ite (fl_152_237 hn hH58 _ _) (fl_st (fun _ => fl_ck (fl_st (fun _ => fl_st (fun _ => fl_bV (fl_150 hn _ _) (fun _ => fl_152_322 hn hH58 _ _)))))))) (fl_ite (fl_ite (fl_bV (fl_146 hn _) (fun _ => fl_152_322 hn hH58 _ _)) (fl_bV (fl_151 hn _) (fun _ => fl_152_322 hn hH58 _ _))) (fl_bV (fl_refl) (fun _ => fl_152_322 hn hH58 _ _))))
theorem fl_152_182 {n n' : Nat} (hn : n ≤ n') {H58 H58' : Int32 → amS → amQ} (hH58 : ∀ a0 S, FL (H58 a0 S) (H58' a0 S)) (l1 : Int32) (l2 : Int32) (l3 : Int32) (l5 : Int32) (S : amS) : FL (g_152_182 n H58 l1 l2 l3 l5 S) (g_152_182 n' H58' l1 l2 l3 l5 S) := by
  unfold g_152_182
  exact fl_152_183 hn hH58 _ _ _ _ _ _
theorem fl_152_144 {n n' : Nat} (hn : n ≤ n') {H58 H58' : Int32 → amS → amQ} (hH58 : ∀ a0 S, FL (H58 a0 S) (H58' a0 S)) (l1 : Int32) (l2 : Int32) (l3 : Int32) (l4 : Int32) (s0 : Int32) (S : amS) : FL (g_152_144 n H58 l1 l2 l3 l4 s0 S) (g_152_144 n' H58' l1 l2 l3 l4 s0 S) := by
  unfold g_152_144
  exact fl_ck (fl_ite (fl_ck (fl_ck (fl_bI (fl_refl) (fun _ _ => fl_ite (fl_152_182 hn hH58 _ _ _ _ _) (fl_152_183 hn hH58 _ _ _ _ _ _))))) (fl_152_182 hn hH58 _ _ _ _ _))
theorem fl_152_143 {n n' : Nat} (hn : n ≤ n') {H58 H58' : Int32 → amS → amQ} (hH58 : ∀ a0 S, FL (H58 a0 S) (H58' a0 S)) (l1 : Int32) (l2 : Int32) (l3 : Int32) (l4 : Int32) (S : amS) : FL (g_152_143 n H58 l1 l2 l3 l4 S) (g_152_143 n' H58' l1 l2 l3 l4 S) := by
  unfold g_152_143
  exact fl_152_144 hn hH58 _ _ _ _ _ _
theorem fl_152_105 {n n' : Nat} (hn : n ≤ n') {H58 H58' : Int32 → amS → amQ} (hH58 : ∀ a0 S, FL (H58 a0 S) (H58' a0 S)) (l1 : Int32) (l2 : Int32) (l3 : Int32) (s0 : Int32) (S : amS) : FL (g_152_105 n H58 l1 l2 l3 s0 S) (g_152_105 n' H58' l1 l2 l3 s0 S) := by
  unfold g_152_105
  exact fl_ck (fl_ite (fl_ck (fl_ck (fl_bI (fl_refl) (fun _ _ => fl_ite (fl_152_144 hn hH58 _ _ _ _ _ _) (fl_152_143 hn hH58 _ _ _ _ _))))) (fl_152_143 hn hH58 _ _ _ _ _))
theorem flh_152_58 {n n' : Nat} (hn : n ≤ n') {H58 H58' : Int32 → amS → amQ} (hH58 : ∀ a0 S, FL (H58 a0 S) (H58' a0 S)) (l1 : Int32) (S : amS) : FL (h_152_58 n H58 l1 S) (h_152_58 n' H58' l1 S) := by
  unfold h_152_58
  exact fl_ite (fl_refl) (fl_ite (fl_ck (fl_st (fun _ => fl_bI (fl_132 hn _) (fun _ _ => fl_ck (fl_ite (fl_bI (fl_refl) (fun _ _ => fl_152_105 hn hH58 _ _ _ _ _)) (fl_152_105 hn hH58 _ _ _ _ _)))))) (fl_refl))
theorem fl_152_58 : ∀ {n n' : Nat} (hn : n ≤ n') (l1 : Int32) (S : amS), FL (g_152_58 n l1 S) (g_152_58 n' l1 S)
  | 0, _, _, _, _ => fl_none
  | n + 1, 0, h, _, _ => absurd h (Nat.not_succ_le_zero n)
  | n + 1, n' + 1, h, l1, S => flh_152_58 (Nat.le_of_succ_le_succ h) (fun a0 S => fl_152_58 (Nat.le_of_succ_le_succ h) a0 S) l1 S
theorem fl_152 {n n' : Nat} (hn : n ≤ n') (S : amS) : FL (g_152 n S) (g_152 n' S) := by
  unfold g_152
  exact fl_st (fun _ => fl_st (fun _ => fl_st (fun _ => fl_st (fun _ => fl_st (fun _ => fl_st (fun _ => fl_st (fun _ => fl_bI (fl_refl) (fun _ _ => fl_ck (fl_st (fun _ => fl_ck (fl_st (fun _ => fl_152_58 hn _ _))))))))))))
noncomputable def G_152_322 (H58 : Int32 → amS → amQ) (l1 : Int32) (S : amS) : amQ := H58 l1 S
theorem ev_152_322 {N58 : Nat → Nat → Int32 → amS → amQ} {H58 : Int32 → amS → amQ} (hH58 : ∀ a0 S, EV (fun m n => N58 m n a0 S) (H58 a0 S)) (l1 : Int32) (S : amS) : EV (fun m n => g_152_322 n (N58 m n) l1 S) (G_152_322 H58 l1 S) := by
  unfold g_152_322 G_152_322
  exact hH58 _ _
noncomputable def G_152_237 (H58 : Int32 → amS → amQ) (l1 : Int32) (S : amS) : amQ := az_bV (g_131 (S.1 34 4) S) fun S1 => G_152_322 H58 l1 S1
theorem ev_152_237 {N58 : Nat → Nat → Int32 → amS → amQ} {H58 : Int32 → amS → amQ} (hH58 : ∀ a0 S, EV (fun m n => N58 m n a0 S) (H58 a0 S)) (l1 : Int32) (S : amS) : EV (fun m n => g_152_237 n (N58 m n) l1 S) (G_152_237 H58 l1 S) := by
  unfold g_152_237 G_152_237
  exact ev_bV (ev_c) (fun _ => ev_152_322 hH58 _ _)
noncomputable def G_152_208 (H58 : Int32 → amS → amQ) (l1 : Int32) (S : amS) : amQ := az_bV (g_131 (S.1 34 3) S) fun S1 => G_152_322 H58 l1 S1
theorem ev_152_208 {N58 : Nat → Nat → Int32 → amS → amQ} {H58 : Int32 → amS → amQ} (hH58 : ∀ a0 S, EV (fun m n => N58 m n a0 S) (H58 a0 S)) (l1 : Int32) (S : amS) : EV (fun m n => g_152_208 n (N58 m n) l1 S) (G_152_208 H58 l1 S) := by
  unfold g_152_208 G_152_208
  exact ev_bV (ev_c) (fun _ => ev_152_322 hH58 _ _)
noncomputable def G_152_183 (H58 : Int32 → amS → amQ) (l1 : Int32) (l2 : Int32) (l3 : Int32) (l5 : Int32) (s0 : Int32) (S : amS) : amQ := if l3 = ((-1)) then if 0 < (S.1 34 23) then G_152_208 H58 0 S else az_ck 0 256 (if (S.1 42 (0 : Int32).toNatClampNeg) = 0 then G_152_208 H58 0 S else G_152_322 H58 0 S) else if l3 = 41 then if (S.1 34 23) = 0 then G_152_237 H58 l1 S else if s0 = 0 then G_152_237 H58 l1 S else az_st (sI S 34 4 ((S.1 34 4) + 1)) fun S4 => az_ck (S4.1 34 23) 24 (az_st (sI S4 34 26 (S4.1 49 (S4.1 34 23).toNatClampNeg)) fun S5 => az_st (sI S5 34 23 ((S5.1 34 23) - 1)) fun S6 => az_bV (G_150 l2 S6) fun S7 => G_152_322 H58 l1 S7) else if l5 = 0 then if l3 = 40 then az_bV (G_146 S) fun S2 => G_152_322 H58 l1 S2 else az_bV (G_151 S) fun S1 => G_152_322 H58 l1 S1 else az_bV (g_131 (S.1 34 4) S) fun S3 => G_152_322 H58 l1 S3
theorem ev_152_183 {N58 : Nat → Nat → Int32 → amS → amQ} {H58 : Int32 → amS → amQ} (hH58 : ∀ a0 S, EV (fun m n => N58 m n a0 S) (H58 a0 S)) (l1 : Int32) (l2 : Int32) (l3 : Int32) (l5 : Int32) (s0 : Int32) (S : amS) : EV (fun m n => g_152_183 n (N58 m n) l1 l2 l3 l5 s0 S) (G_152_183 H58 l1 l2 l3 l5 s0 S) := by
  unfold g_152_183 G_152_183
  exact ev_ite (ev_ite (ev_152_208 hH58 _ _) (ev_ck (ev_ite (ev_152_208 hH58 _ _) (ev_152_322 hH58 _ _)))) (ev_ite (ev_ite (ev_152_237 hH58 _ _) (ev_ite (ev_152_237 hH58 _ _) (ev_st (fun _ => ev_ck (ev_st (fun _ => ev_st (fun _ => ev_bV (ev_150 _ _) (fun _ => ev_152_322 hH58 _ _)))))))) (ev_ite (ev_ite (ev_bV (ev_146 _) (fun _ => ev_152_322 hH58 _ _)) (ev_bV (ev_151 _) (fun _ => ev_152_322 hH58 _ _))) (ev_bV (ev_c) (fun _ => ev_152_322 hH58 _ _))))
noncomputable def G_152_182 (H58 : Int32 → amS → amQ) (l1 : Int32) (l2 : Int32) (l3 : Int32) (l5 : Int32) (S : amS) : amQ := G_152_183 H58 l1 l2 l3 l5 0 S
theorem ev_152_182 {N58 : Nat → Nat → Int32 → amS → amQ} {H58 : Int32 → amS → amQ} (hH58 : ∀ a0 S, EV (fun m n => N58 m n a0 S) (H58 a0 S)) (l1 : Int32) (l2 : Int32) (l3 : Int32) (l5 : Int32) (S : amS) : EV (fun m n => g_152_182 n (N58 m n) l1 l2 l3 l5 S) (G_152_182 H58 l1 l2 l3 l5 S) := by
  unfold g_152_182 G_152_182
  exact ev_152_183 hH58 _ _ _ _ _ _
noncomputable def G_152_144 (H58 : Int32 → amS → amQ) (l1 : Int32) (l2 : Int32) (l3 : Int32) (l4 : Int32) (s0 : Int32) (S : amS) : amQ := az_ck (S.1 34 23) 24 (if (S.1 48 (S.1 34 23).toNatClampNeg) = 0 then az_ck l2 256 (az_ck l2 256 (az_bI (g_148 (S.1 36 l2.toNatClampNeg) (S.1 38 l2.toNatClampNeg) S) fun x1 S2 => if l4 < x1 then G_152_182 H58 l1 l2 l3 s0 S2 else G_152_183 H58 l1 l2 l3 s0 1 S2)) else G_152_182 H58 l1 l2 l3 s0 S)
theorem ev_152_144 {N58 : Nat → Nat → Int32 → amS → amQ} {H58 : Int32 → amS → amQ} (hH58 : ∀ a0 S, EV (fun m n => N58 m n a0 S) (H58 a0 S)) (l1 : Int32) (l2 : Int32) (l3 : Int32) (l4 : Int32) (s0 : Int32) (S : amS) : EV (fun m n => g_152_144 n (N58 m n) l1 l2 l3 l4 s0 S) (G_152_144 H58 l1 l2 l3 l4 s0 S) := by
  unfold g_152_144 G_152_144
  exact ev_ck (ev_ite (ev_ck (ev_ck (ev_bI (ev_c) (fun _ _ => ev_ite (ev_152_182 hH58 _ _ _ _ _) (ev_152_183 hH58 _ _ _ _ _ _))))) (ev_152_182 hH58 _ _ _ _ _))
noncomputable def G_152_143 (H58 : Int32 → amS → amQ) (l1 : Int32) (l2 : Int32) (l3 : Int32) (l4 : Int32) (S : amS) : amQ := G_152_144 H58 l1 l2 l3 l4 0 S
theorem ev_152_143 {N58 : Nat → Nat → Int32 → amS → amQ} {H58 : Int32 → amS → amQ} (hH58 : ∀ a0 S, EV (fun m n => N58 m n a0 S) (H58 a0 S)) (l1 : Int32) (l2 : Int32) (l3 : Int32) (l4 : Int32) (S : amS) : EV (fun m n => g_152_143 n (N58 m n) l1 l2 l3 l4 S) (G_152_143 H58 l1 l2 l3 l4 S) := by
  unfold g_152_143 G_152_143
  exact ev_152_144 hH58 _ _ _ _ _ _
noncomputable def G_152_105 (H58 : Int32 → amS → amQ) (l1 : Int32) (l2 : Int32) (l3 : Int32) (s0 : Int32) (S : amS) : amQ := az_ck (S.1 34 23) 24 (if (S.1 48 (S.1 34 23).toNatClampNeg) = 0 then az_ck l2 256 (az_ck l2 256 (az_bI (g_147 (S.1 36 l2.toNatClampNeg) (S.1 38 l2.toNatClampNeg) S) fun x1 S2 => if s0 = x1 then G_152_144 H58 l1 l2 l3 s0 1 S2 else G_152_143 H58 l1 l2 l3 s0 S2)) else G_152_143 H58 l1 l2 l3 s0 S)
theorem ev_152_105 {N58 : Nat → Nat → Int32 → amS → amQ} {H58 : Int32 → amS → amQ} (hH58 : ∀ a0 S, EV (fun m n => N58 m n a0 S) (H58 a0 S)) (l1 : Int32) (l2 : Int32) (l3 : Int32) (s0 : Int32) (S : amS) : EV (fun m n => g_152_105 n (N58 m n) l1 l2 l3 s0 S) (G_152_105 H58 l1 l2 l3 s0 S) := by
  unfold g_152_105 G_152_105
  exact ev_ck (ev_ite (ev_ck (ev_ck (ev_bI (ev_c) (fun _ _ => ev_ite (ev_152_144 hH58 _ _ _ _ _ _) (ev_152_143 hH58 _ _ _ _ _))))) (ev_152_143 hH58 _ _ _ _ _))
noncomputable def G_152_58 (l1 : Int32) (S : amS) : amQ := az_lim (fun m n => g_152_58 n l1 S)
theorem ev_152_58 (l1 : Int32) (S : amS) : EV (fun m n => g_152_58 n l1 S) (G_152_58 l1 S) := ev_lim (fun m m' n n' hm hn => fl_152_58 hn l1 S)
noncomputable def B_152_58 (H58 : Int32 → amS → amQ) (l1 : Int32) (S : amS) : amQ := if l1 = 0 then some (.inl none, S) else if (S.1 34 5) = 0 then az_ck (S.1 34 23) 24 (az_st (S.1 47 (S.1 34 23).toNatClampNeg) fun x1 => az_bI (G_132 S) fun x2 S3 => az_ck (S3.1 34 23) 24 (if (S3.1 48 (S3.1 34 23).toNatClampNeg) = 0 then az_bI (g_149 x1 S3) fun x4 S5 => G_152_105 H58 l1 x1 x2 x4 S5 else G_152_105 H58 l1 x1 x2 0 S3)) else some (.inl none, S)
theorem evB_152_58 {N58 : Nat → Nat → Int32 → amS → amQ} {H58 : Int32 → amS → amQ} (hH58 : ∀ a0 S, EV (fun m n => N58 m n a0 S) (H58 a0 S)) (l1 : Int32) (S : amS) : EV (fun m n => h_152_58 n (N58 m n) l1 S) (B_152_58 H58 l1 S) := by
  unfold h_152_58 B_152_58
  exact ev_ite (ev_c) (ev_ite (ev_ck (ev_st (fun _ => ev_bI (ev_132 _) (fun _ _ => ev_ck (ev_ite (ev_bI (ev_c) (fun _ _ => ev_152_105 hH58 _ _ _ _ _)) (ev_152_105 hH58 _ _ _ _ _)))))) (ev_c))
theorem G_152_58_eq (l1 : Int32) (S : amS) : G_152_58 l1 S = B_152_58 (G_152_58 ) l1 S := ev_uniq (f := fun m n => g_152_58 (n + 1) l1 S) (ev_shift (ev_152_58 l1 S)) (evB_152_58 (N58 := fun m n => g_152_58 n) (fun a0 S => ev_152_58 a0 S) l1 S)
noncomputable def G_152 (S : amS) : amQ := az_st (sI S 34 7 0) fun S1 => az_st (sI S1 34 19 0) fun S2 => az_st (sI S2 34 26 0) fun S3 => az_st (sI S3 34 4 0) fun S4 => az_st (sI S4 34 23 0) fun S5 => az_st (sI S5 34 5 0) fun S6 => az_st (sI S6 34 6 ((-1))) fun S7 => az_bI (g_137 11 0 0 S7) fun x8 S9 => az_ck 0 24 (az_st (sI S9 47 (0 : Int32).toNatClampNeg x8) fun S10 => az_ck 0 24 (az_st (sI S10 48 (0 : Int32).toNatClampNeg (vp_nar .boolean 0)) fun S11 => G_152_58 1 S11))
theorem ev_152 (S : amS) : EV (fun m n => g_152 n S) (G_152 S) := by
  unfold g_152 G_152
  exact ev_st (fun _ => ev_st (fun _ => ev_st (fun _ => ev_st (fun _ => ev_st (fun _ => ev_st (fun _ => ev_st (fun _ => ev_bI (ev_c) (fun _ _ => ev_ck (ev_st (fun _ => ev_ck (ev_st (fun _ => ev_152_58 _ _))))))))))))
theorem fl_153_113 {n n' : Nat} (hn : n ≤ n') {H2 H2' : Int32 → amS → amQ} (hH2 : ∀ a0 S, FL (H2 a0 S) (H2' a0 S)) (l1 : Int32) (S : amS) : FL (g_153_113 n H2 l1 S) (g_153_113 n' H2' l1 S) := by
  unfold g_153_113
  exact hH2 _ _
theorem fl_153_70 {n n' : Nat} (hn : n ≤ n') {H2 H2' : Int32 → amS → amQ} (hH2 : ∀ a0 S, FL (H2 a0 S) (H2' a0 S)) (l1 : Int32) (l2 : Int32) (S : amS) : FL (g_153_70 n H2 l1 l2 S) (g_153_70 n' H2' l1 l2 S) := by
  unfold g_153_70
  exact fl_ck (fl_ite (fl_153_113 hn hH2 _ _) (fl_ite (fl_ck (fl_ck (fl_st (fun _ => fl_ck (fl_st (fun _ => fl_ck (fl_st (fun _ => fl_ck (fl_st (fun _ => fl_153_113 hn hH2 _ _)))))))))) (fl_153_113 hn hH2 _ _)))
theorem fl_153_58 {n n' : Nat} (hn : n ≤ n') {H2 H2' : Int32 → amS → amQ} (hH2 : ∀ a0 S, FL (H2 a0 S) (H2' a0 S)) (l1 : Int32) (l2 : Int32) (S : amS) : FL (g_153_58 n H2 l1 l2 S) (g_153_58 n' H2' l1 l2 S) := by
  unfold g_153_58
  exact fl_ck (fl_st (fun _ => fl_ck (fl_st (fun _ => fl_153_70 hn hH2 _ _ _))))
theorem fl_153_48 {n n' : Nat} (hn : n ≤ n') {H2 H2' : Int32 → amS → amQ} (hH2 : ∀ a0 S, FL (H2 a0 S) (H2' a0 S)) (l1 : Int32) (l2 : Int32) (s0 : Int32) (S : amS) : FL (g_153_48 n H2 l1 l2 s0 S) (g_153_48 n' H2' l1 l2 s0 S) := by
  unfold g_153_48
  exact fl_ite (fl_153_58 hn hH2 _ _ _) (fl_ite (fl_153_70 hn hH2 _ _ _) (fl_153_58 hn hH2 _ _ _))
theorem fl_153_47 {n n' : Nat} (hn : n ≤ n') {H2 H2' : Int32 → amS → amQ} (hH2 : ∀ a0 S, FL (H2 a0 S) (H2' a0 S)) (l1 : Int32) (l2 : Int32) (S : amS) : FL (g_153_47 n H2 l1 l2 S) (g_153_47 n' H2' l1 l2 S) := by
  unfold g_153_47
  exact fl_153_48 hn hH2 _ _ _ _
theorem fl_153_43 {n n' : Nat} (hn : n ≤ n') {H2 H2' : Int32 → amS → amQ} (hH2 : ∀ a0 S, FL (H2 a0 S) (H2' a0 S)) (l1 : Int32) (l2 : Int32) (S : amS) : FL (g_153_43 n H2 l1 l2 S) (g_153_43 n' H2' l1 l2 S) := by
  unfold g_153_43
  exact fl_153_48 hn hH2 _ _ _ _
theorem flh_153_2 {n n' : Nat} (hn : n ≤ n') {H2 H2' : Int32 → amS → amQ} (hH2 : ∀ a0 S, FL (H2 a0 S) (H2' a0 S)) (l1 : Int32) (S : amS) : FL (h_153_2 n H2 l1 S) (h_153_2 n' H2' l1 S) := by
  unfold h_153_2
  exact fl_ite (fl_refl) (fl_ck (fl_st (fun _ => fl_ck (fl_ite (fl_153_47 hn hH2 _ _ _) (fl_ite (fl_153_43 hn hH2 _ _ _) (fl_ite (fl_153_43 hn hH2 _ _ _) (fl_ite (fl_153_43 hn hH2 _ _ _) (fl_153_47 hn hH2 _ _ _))))))))
theorem fl_153_2 : ∀ {n n' : Nat} (hn : n ≤ n') (l1 : Int32) (S : amS), FL (g_153_2 n l1 S) (g_153_2 n' l1 S)
  | 0, _, _, _, _ => fl_none
  | n + 1, 0, h, _, _ => absurd h (Nat.not_succ_le_zero n)
  | n + 1, n' + 1, h, l1, S => flh_153_2 (Nat.le_of_succ_le_succ h) (fun a0 S => fl_153_2 (Nat.le_of_succ_le_succ h) a0 S) l1 S
theorem fl_153 {n n' : Nat} (hn : n ≤ n') (S : amS) : FL (g_153 n S) (g_153 n' S) := by
  unfold g_153
  exact fl_153_2 hn _ _
noncomputable def G_153_113 (H2 : Int32 → amS → amQ) (l1 : Int32) (S : amS) : amQ := H2 (l1 + 1) S
theorem ev_153_113 {N2 : Nat → Nat → Int32 → amS → amQ} {H2 : Int32 → amS → amQ} (hH2 : ∀ a0 S, EV (fun m n => N2 m n a0 S) (H2 a0 S)) (l1 : Int32) (S : amS) : EV (fun m n => g_153_113 n (N2 m n) l1 S) (G_153_113 H2 l1 S) := by
  unfold g_153_113 G_153_113
  exact hH2 _ _
noncomputable def G_153_70 (H2 : Int32 → amS → amQ) (l1 : Int32) (l2 : Int32) (S : amS) : amQ := az_ck l1 256 (if (S.1 45 l1.toNatClampNeg) = 0 then G_153_113 H2 l1 S else if l2 = 4 then az_ck l1 256 (az_ck (S.1 39 l1.toNatClampNeg) 256 (az_st (S.1 41 (S.1 39 l1.toNatClampNeg).toNatClampNeg) fun x2 => az_ck x2 256 (az_st (sI S 45 x2.toNatClampNeg (vp_nar .boolean 1)) fun S3 => az_ck l1 256 (az_st (S3.1 40 l1.toNatClampNeg) fun x5 => az_ck x5 256 (az_st (sI S3 45 x5.toNatClampNeg (vp_nar .boolean 1)) fun S6 => G_153_113 H2 l1 S6))))) else G_153_113 H2 l1 S)
theorem ev_153_70 {N2 : Nat → Nat → Int32 → amS → amQ} {H2 : Int32 → amS → amQ} (hH2 : ∀ a0 S, EV (fun m n => N2 m n a0 S) (H2 a0 S)) (l1 : Int32) (l2 : Int32) (S : amS) : EV (fun m n => g_153_70 n (N2 m n) l1 l2 S) (G_153_70 H2 l1 l2 S) := by
  unfold g_153_70 G_153_70
  exact ev_ck (ev_ite (ev_153_113 hH2 _ _) (ev_ite (ev_ck (ev_ck (ev_st (fun _ => ev_ck (ev_st (fun _ => ev_ck (ev_st (fun _ => ev_ck (ev_st (fun _ => ev_153_113 hH2 _ _)))))))))) (ev_153_113 hH2 _ _)))
noncomputable def G_153_58 (H2 : Int32 → amS → amQ) (l1 : Int32) (l2 : Int32) (S : amS) : amQ := az_ck l1 256 (az_st (S.1 40 l1.toNatClampNeg) fun x2 => az_ck x2 256 (az_st (sI S 45 x2.toNatClampNeg (vp_nar .boolean 1)) fun S3 => G_153_70 H2 l1 l2 S3))
theorem ev_153_58 {N2 : Nat → Nat → Int32 → amS → amQ} {H2 : Int32 → amS → amQ} (hH2 : ∀ a0 S, EV (fun m n => N2 m n a0 S) (H2 a0 S)) (l1 : Int32) (l2 : Int32) (S : amS) : EV (fun m n => g_153_58 n (N2 m n) l1 l2 S) (G_153_58 H2 l1 l2 S) := by
  unfold g_153_58 G_153_58
  exact ev_ck (ev_st (fun _ => ev_ck (ev_st (fun _ => ev_153_70 hH2 _ _ _))))
noncomputable def G_153_48 (H2 : Int32 → amS → amQ) (l1 : Int32) (l2 : Int32) (s0 : Int32) (S : amS) : amQ := if l2 = 3 then G_153_58 H2 l1 l2 S else if s0 = 0 then G_153_70 H2 l1 l2 S else G_153_58 H2 l1 l2 S
theorem ev_153_48 {N2 : Nat → Nat → Int32 → amS → amQ} {H2 : Int32 → amS → amQ} (hH2 : ∀ a0 S, EV (fun m n => N2 m n a0 S) (H2 a0 S)) (l1 : Int32) (l2 : Int32) (s0 : Int32) (S : amS) : EV (fun m n => g_153_48 n (N2 m n) l1 l2 s0 S) (G_153_48 H2 l1 l2 s0 S) := by
  unfold g_153_48 G_153_48
  exact ev_ite (ev_153_58 hH2 _ _ _) (ev_ite (ev_153_70 hH2 _ _ _) (ev_153_58 hH2 _ _ _))
noncomputable def G_153_47 (H2 : Int32 → amS → amQ) (l1 : Int32) (l2 : Int32) (S : amS) : amQ := G_153_48 H2 l1 l2 0 S
theorem ev_153_47 {N2 : Nat → Nat → Int32 → amS → amQ} {H2 : Int32 → amS → amQ} (hH2 : ∀ a0 S, EV (fun m n => N2 m n a0 S) (H2 a0 S)) (l1 : Int32) (l2 : Int32) (S : amS) : EV (fun m n => g_153_47 n (N2 m n) l1 l2 S) (G_153_47 H2 l1 l2 S) := by
  unfold g_153_47 G_153_47
  exact ev_153_48 hH2 _ _ _ _
noncomputable def G_153_43 (H2 : Int32 → amS → amQ) (l1 : Int32) (l2 : Int32) (S : amS) : amQ := G_153_48 H2 l1 l2 1 S
theorem ev_153_43 {N2 : Nat → Nat → Int32 → amS → amQ} {H2 : Int32 → amS → amQ} (hH2 : ∀ a0 S, EV (fun m n => N2 m n a0 S) (H2 a0 S)) (l1 : Int32) (l2 : Int32) (S : amS) : EV (fun m n => g_153_43 n (N2 m n) l1 l2 S) (G_153_43 H2 l1 l2 S) := by
  unfold g_153_43 G_153_43
  exact ev_153_48 hH2 _ _ _ _
noncomputable def G_153_2 (l1 : Int32) (S : amS) : amQ := az_lim (fun m n => g_153_2 n l1 S)
theorem ev_153_2 (l1 : Int32) (S : amS) : EV (fun m n => g_153_2 n l1 S) (G_153_2 l1 S) := ev_lim (fun m m' n n' hm hn => fl_153_2 hn l1 S)
noncomputable def B_153_2 (H2 : Int32 → amS → amQ) (l1 : Int32) (S : amS) : amQ := if (S.1 34 7) ≤ l1 then some (.inl none, S) else az_ck l1 256 (az_st (S.1 36 l1.toNatClampNeg) fun x1 => az_ck l1 256 (if (S.1 45 l1.toNatClampNeg) = 0 then G_153_47 H2 l1 x1 S else if x1 = 5 then G_153_43 H2 l1 x1 S else if x1 = 6 then G_153_43 H2 l1 x1 S else if x1 = 8 then G_153_43 H2 l1 x1 S else G_153_47 H2 l1 x1 S))
theorem evB_153_2 {N2 : Nat → Nat → Int32 → amS → amQ} {H2 : Int32 → amS → amQ} (hH2 : ∀ a0 S, EV (fun m n => N2 m n a0 S) (H2 a0 S)) (l1 : Int32) (S : amS) : EV (fun m n => h_153_2 n (N2 m n) l1 S) (B_153_2 H2 l1 S) := by
  unfold h_153_2 B_153_2
  exact ev_ite (ev_c) (ev_ck (ev_st (fun _ => ev_ck (ev_ite (ev_153_47 hH2 _ _ _) (ev_ite (ev_153_43 hH2 _ _ _) (ev_ite (ev_153_43 hH2 _ _ _) (ev_ite (ev_153_43 hH2 _ _ _) (ev_153_47 hH2 _ _ _))))))))
theorem G_153_2_eq (l1 : Int32) (S : amS) : G_153_2 l1 S = B_153_2 (G_153_2 ) l1 S := ev_uniq (f := fun m n => g_153_2 (n + 1) l1 S) (ev_shift (ev_153_2 l1 S)) (evB_153_2 (N2 := fun m n => g_153_2 n) (fun a0 S => ev_153_2 a0 S) l1 S)
noncomputable def G_153 (S : amS) : amQ := G_153_2 0 S
theorem ev_153 (S : amS) : EV (fun m n => g_153 n S) (G_153 S) := by
  unfold g_153 G_153
  exact ev_153_2 _ _
theorem fl_154_117 {n n' : Nat} (hn : n ≤ n') {H91 H91' : Int32 → amS → amQ} (hH91 : ∀ a0 S, FL (H91 a0 S) (H91' a0 S)) (l1 : Int32) (s1 : Int32) (s2 : Int32) (S : amS) : FL (g_154_117 n H91 l1 s1 s2 S) (g_154_117 n' H91' l1 s1 s2 S) := by
  unfold g_154_117
  exact fl_ck (fl_st (fun _ => hH91 _ _))
theorem flh_154_91 {n n' : Nat} (hn : n ≤ n') {H91 H91' : Int32 → amS → amQ} (hH91 : ∀ a0 S, FL (H91 a0 S) (H91' a0 S)) (l1 : Int32) (S : amS) : FL (h_154_91 n H91 l1 S) (h_154_91 n' H91' l1 S) := by
  unfold h_154_91
  exact fl_ite (fl_st (fun _ => fl_st (fun _ => fl_ck (fl_bV (fl_refl) (fun _ => fl_refl))))) (fl_ite (fl_154_117 hn hH91 _ _ _ _) (fl_154_117 hn hH91 _ _ _ _))
theorem fl_154_91 : ∀ {n n' : Nat} (hn : n ≤ n') (l1 : Int32) (S : amS), FL (g_154_91 n l1 S) (g_154_91 n' l1 S)
  | 0, _, _, _, _ => fl_none
  | n + 1, 0, h, _, _ => absurd h (Nat.not_succ_le_zero n)
  | n + 1, n' + 1, h, l1, S => flh_154_91 (Nat.le_of_succ_le_succ h) (fun a0 S => fl_154_91 (Nat.le_of_succ_le_succ h) a0 S) l1 S
theorem fl_154 {n n' : Nat} (hn : n ≤ n') (S : amS) : FL (g_154 n S) (g_154 n' S) := by
  unfold g_154
  exact fl_st (fun _ => fl_st (fun _ => fl_st (fun _ => fl_st (fun _ => fl_st (fun _ => fl_st (fun _ => fl_st (fun _ => fl_bV (fl_152 hn _) (fun _ => fl_bI (fl_refl) (fun _ _ => fl_ite (fl_bV (fl_153 hn _) (fun _ => fl_st (fun _ => fl_st (fun _ => fl_st (fun _ => fl_st (fun _ => fl_st (fun _ => fl_st (fun _ => fl_154_91 hn _ _)))))))) (fl_refl))))))))))
noncomputable def G_154_117 (H91 : Int32 → amS → amQ) (l1 : Int32) (s1 : Int32) (s2 : Int32) (S : amS) : amQ := az_ck s1 120000 (az_st (sI S 58 s1.toNatClampNeg s2) fun S1 => H91 (l1 + 1) S1)
theorem ev_154_117 {N91 : Nat → Nat → Int32 → amS → amQ} {H91 : Int32 → amS → amQ} (hH91 : ∀ a0 S, EV (fun m n => N91 m n a0 S) (H91 a0 S)) (l1 : Int32) (s1 : Int32) (s2 : Int32) (S : amS) : EV (fun m n => g_154_117 n (N91 m n) l1 s1 s2 S) (G_154_117 H91 l1 s1 s2 S) := by
  unfold g_154_117 G_154_117
  exact ev_ck (ev_st (fun _ => hH91 _ _))
noncomputable def G_154_91 (l1 : Int32) (S : amS) : amQ := az_lim (fun m n => g_154_91 n l1 S)
theorem ev_154_91 (l1 : Int32) (S : amS) : EV (fun m n => g_154_91 n l1 S) (G_154_91 l1 S) := ev_lim (fun m m' n n' hm hn => fl_154_91 hn l1 S)
noncomputable def B_154_91 (H91 : Int32 → amS → amQ) (l1 : Int32) (S : amS) : amQ := if 120000 ≤ l1 then az_st (sI S 34 44 0) fun S1 => az_st (sI S1 34 53 ((-1))) fun S2 => az_ck 0 256 (az_bV (g_166 (S2.1 39 (0 : Int32).toNatClampNeg) S2) fun S3 => some (.inl none, S3)) else if 120000 ≤ (l1 + 1) then G_154_117 H91 l1 l1 ((-1)) S else G_154_117 H91 l1 l1 (l1 + 1) S
theorem evB_154_91 {N91 : Nat → Nat → Int32 → amS → amQ} {H91 : Int32 → amS → amQ} (hH91 : ∀ a0 S, EV (fun m n => N91 m n a0 S) (H91 a0 S)) (l1 : Int32) (S : amS) : EV (fun m n => h_154_91 n (N91 m n) l1 S) (B_154_91 H91 l1 S) := by
  unfold h_154_91 B_154_91
  exact ev_ite (ev_st (fun _ => ev_st (fun _ => ev_ck (ev_bV (ev_c) (fun _ => ev_c))))) (ev_ite (ev_154_117 hH91 _ _ _ _) (ev_154_117 hH91 _ _ _ _))
theorem G_154_91_eq (l1 : Int32) (S : amS) : G_154_91 l1 S = B_154_91 (G_154_91 ) l1 S := ev_uniq (f := fun m n => g_154_91 (n + 1) l1 S) (ev_shift (ev_154_91 l1 S)) (evB_154_91 (N91 := fun m n => g_154_91 n) (fun a0 S => ev_154_91 a0 S) l1 S)
noncomputable def G_154 (S : amS) : amQ := az_st (sI S 34 3 (S.1 34 2)) fun S1 => az_st (sI S1 34 2 0) fun S2 => az_st (sI S2 34 29 0) fun S3 => az_st (sI S3 34 30 0) fun S4 => az_st (sI S4 34 31 0) fun S5 => az_st (sI S5 34 32 0) fun S6 => az_st (sI S6 34 55 0) fun S7 => az_bV (G_152 S7) fun S8 => az_bI (g_128 (S8.1 34 5) 0 S8) fun x9 S10 => if x9 = 0 then az_bV (G_153 S10) fun S11 => az_st (sI S11 34 29 2) fun S12 => az_st (sI S12 34 36 0) fun S13 => az_st (sI S13 34 39 0) fun S14 => az_st (sI S14 34 49 0) fun S15 => az_st (sI S15 34 51 0) fun S16 => az_st (sI S16 34 52 ((-1))) fun S17 => G_154_91 0 S17 else some (.inl none, S10)
theorem ev_154 (S : amS) : EV (fun m n => g_154 n S) (G_154 S) := by
  unfold g_154 G_154
  exact ev_st (fun _ => ev_st (fun _ => ev_st (fun _ => ev_st (fun _ => ev_st (fun _ => ev_st (fun _ => ev_st (fun _ => ev_bV (ev_152 _) (fun _ => ev_bI (ev_c) (fun _ _ => ev_ite (ev_bV (ev_153 _) (fun _ => ev_st (fun _ => ev_st (fun _ => ev_st (fun _ => ev_st (fun _ => ev_st (fun _ => ev_st (fun _ => ev_154_91 _ _)))))))) (ev_c))))))))))
theorem flh_160_2 {n n' : Nat} (hn : n ≤ n') {H2 H2' : Int32 → amS → amQ} (hH2 : ∀ a0 S, FL (H2 a0 S) (H2' a0 S)) (l2 : Int32) (S : amS) : FL (h_160_2 n H2 l2 S) (h_160_2 n' H2' l2 S) := by
  unfold h_160_2
  exact fl_ite (fl_refl) (fl_ck (fl_ite (fl_ck (fl_st (fun _ => fl_ck (fl_st (fun _ => hH2 _ _))))) (fl_refl)))
theorem fl_160_2 : ∀ {n n' : Nat} (hn : n ≤ n') (l2 : Int32) (S : amS), FL (g_160_2 n l2 S) (g_160_2 n' l2 S)
  | 0, _, _, _, _ => fl_none
  | n + 1, 0, h, _, _ => absurd h (Nat.not_succ_le_zero n)
  | n + 1, n' + 1, h, l2, S => flh_160_2 (Nat.le_of_succ_le_succ h) (fun a0 S => fl_160_2 (Nat.le_of_succ_le_succ h) a0 S) l2 S
theorem fl_160 {n n' : Nat} (hn : n ≤ n') (l1 : Int32) (S : amS) : FL (g_160 n l1 S) (g_160 n' l1 S) := by
  unfold g_160
  exact fl_160_2 hn _ _
noncomputable def G_160_2 (l2 : Int32) (S : amS) : amQ := az_lim (fun m n => g_160_2 n l2 S)
theorem ev_160_2 (l2 : Int32) (S : amS) : EV (fun m n => g_160_2 n l2 S) (G_160_2 l2 S) := ev_lim (fun m m' n n' hm hn => fl_160_2 hn l2 S)
noncomputable def B_160_2 (H2 : Int32 → amS → amQ) (l2 : Int32) (S : amS) : amQ := if l2 < 0 then some (.inl none, S) else az_ck l2 120000 (if (S.1 59 l2.toNatClampNeg) = 0 then az_ck l2 120000 (az_st (sI S 59 l2.toNatClampNeg (vp_nar .boolean 1)) fun S1 => az_ck l2 120000 (az_st (S1.1 58 l2.toNatClampNeg) fun x2 => H2 x2 S1)) else some (.inl none, S))
theorem evB_160_2 {N2 : Nat → Nat → Int32 → amS → amQ} {H2 : Int32 → amS → amQ} (hH2 : ∀ a0 S, EV (fun m n => N2 m n a0 S) (H2 a0 S)) (l2 : Int32) (S : amS) : EV (fun m n => h_160_2 n (N2 m n) l2 S) (B_160_2 H2 l2 S) := by
  unfold h_160_2 B_160_2
  exact ev_ite (ev_c) (ev_ck (ev_ite (ev_ck (ev_st (fun _ => ev_ck (ev_st (fun _ => hH2 _ _))))) (ev_c)))
theorem G_160_2_eq (l2 : Int32) (S : amS) : G_160_2 l2 S = B_160_2 (G_160_2 ) l2 S := ev_uniq (f := fun m n => g_160_2 (n + 1) l2 S) (ev_shift (ev_160_2 l2 S)) (evB_160_2 (N2 := fun m n => g_160_2 n) (fun a0 S => ev_160_2 a0 S) l2 S)
noncomputable def G_160 (l1 : Int32) (S : amS) : amQ := G_160_2 l1 S
theorem ev_160 (l1 : Int32) (S : amS) : EV (fun m n => g_160 n l1 S) (G_160 l1 S) := by
  unfold g_160 G_160
  exact ev_160_2 _ _
theorem fl_161_123 {n n' : Nat} (hn : n ≤ n') {H95 H95' : Int32 → amS → amQ} (hH95 : ∀ a0 S, FL (H95 a0 S) (H95' a0 S)) (l2 : Int32) (S : amS) : FL (g_161_123 n H95 l2 S) (g_161_123 n' H95' l2 S) := by
  unfold g_161_123
  exact hH95 _ _
theorem flh_161_95 {n n' : Nat} (hn : n ≤ n') {H95 H95' : Int32 → amS → amQ} (hH95 : ∀ a0 S, FL (H95 a0 S) (H95' a0 S)) (l2 : Int32) (S : amS) : FL (h_161_95 n H95 l2 S) (h_161_95 n' H95' l2 S) := by
  unfold h_161_95
  exact fl_ite (fl_refl) (fl_ck (fl_ite (fl_ck (fl_st (fun _ => fl_st (fun _ => fl_161_123 hn hH95 _ _)))) (fl_161_123 hn hH95 _ _)))
theorem fl_161_95 : ∀ {n n' : Nat} (hn : n ≤ n') (l2 : Int32) (S : amS), FL (g_161_95 n l2 S) (g_161_95 n' l2 S)
  | 0, _, _, _, _ => fl_none
  | n + 1, 0, h, _, _ => absurd h (Nat.not_succ_le_zero n)
  | n + 1, n' + 1, h, l2, S => flh_161_95 (Nat.le_of_succ_le_succ h) (fun a0 S => fl_161_95 (Nat.le_of_succ_le_succ h) a0 S) l2 S
theorem flh_161_62 {n n' : Nat} (hn : n ≤ n') {H62 H62' : Int32 → amS → amQ} (hH62 : ∀ a0 S, FL (H62 a0 S) (H62' a0 S)) (l2 : Int32) (S : amS) : FL (h_161_62 n H62 l2 S) (h_161_62 n' H62' l2 S) := by
  unfold h_161_62
  exact fl_ite (fl_st (fun _ => fl_161_95 hn _ _)) (fl_ck (fl_bV (fl_160 hn _ _) (fun _ => hH62 _ _)))
theorem fl_161_62 : ∀ {n n' : Nat} (hn : n ≤ n') (l2 : Int32) (S : amS), FL (g_161_62 n l2 S) (g_161_62 n' l2 S)
  | 0, _, _, _, _ => fl_none
  | n + 1, 0, h, _, _ => absurd h (Nat.not_succ_le_zero n)
  | n + 1, n' + 1, h, l2, S => flh_161_62 (Nat.le_of_succ_le_succ h) (fun a0 S => fl_161_62 (Nat.le_of_succ_le_succ h) a0 S) l2 S
theorem flh_161_36 {n n' : Nat} (hn : n ≤ n') {H36 H36' : Int32 → amS → amQ} (hH36 : ∀ a0 S, FL (H36 a0 S) (H36' a0 S)) (l2 : Int32) (S : amS) : FL (h_161_36 n H36 l2 S) (h_161_36 n' H36' l2 S) := by
  unfold h_161_36
  exact fl_ite (fl_161_62 hn _ _) (fl_ck (fl_bV (fl_160 hn _ _) (fun _ => hH36 _ _)))
theorem fl_161_36 : ∀ {n n' : Nat} (hn : n ≤ n') (l2 : Int32) (S : amS), FL (g_161_36 n l2 S) (g_161_36 n' l2 S)
  | 0, _, _, _, _ => fl_none
  | n + 1, 0, h, _, _ => absurd h (Nat.not_succ_le_zero n)
  | n + 1, n' + 1, h, l2, S => flh_161_36 (Nat.le_of_succ_le_succ h) (fun a0 S => fl_161_36 (Nat.le_of_succ_le_succ h) a0 S) l2 S
theorem flh_161_2 {n n' : Nat} (hn : n ≤ n') {H2 H2' : Int32 → Int32 → amS → amQ} (hH2 : ∀ a0 a1 S, FL (H2 a0 a1 S) (H2' a0 a1 S)) (l1 : Int32) (l2 : Int32) (S : amS) : FL (h_161_2 n H2 l1 l2 S) (h_161_2 n' H2' l1 l2 S) := by
  unfold h_161_2
  exact fl_ite (fl_bV (fl_160 hn _ _) (fun _ => fl_bV (fl_160 hn _ _) (fun _ => fl_161_36 hn _ _))) (fl_ck (fl_st (fun _ => hH2 _ _ _)))
theorem fl_161_2 : ∀ {n n' : Nat} (hn : n ≤ n') (l1 : Int32) (l2 : Int32) (S : amS), FL (g_161_2 n l1 l2 S) (g_161_2 n' l1 l2 S)
  | 0, _, _, _, _, _ => fl_none
  | n + 1, 0, h, _, _, _ => absurd h (Nat.not_succ_le_zero n)
  | n + 1, n' + 1, h, l1, l2, S => flh_161_2 (Nat.le_of_succ_le_succ h) (fun a0 a1 S => fl_161_2 (Nat.le_of_succ_le_succ h) a0 a1 S) l1 l2 S
theorem fl_161 {n n' : Nat} (hn : n ≤ n') (l1 : Int32) (S : amS) : FL (g_161 n l1 S) (g_161 n' l1 S) := by
  unfold g_161
  exact fl_161_2 hn _ _ _
noncomputable def G_161_123 (H95 : Int32 → amS → amQ) (l2 : Int32) (S : amS) : amQ := H95 (l2 + (-1)) S
theorem ev_161_123 {N95 : Nat → Nat → Int32 → amS → amQ} {H95 : Int32 → amS → amQ} (hH95 : ∀ a0 S, EV (fun m n => N95 m n a0 S) (H95 a0 S)) (l2 : Int32) (S : amS) : EV (fun m n => g_161_123 n (N95 m n) l2 S) (G_161_123 H95 l2 S) := by
  unfold g_161_123 G_161_123
  exact hH95 _ _
noncomputable def G_161_95 (l2 : Int32) (S : amS) : amQ := az_lim (fun m n => g_161_95 n l2 S)
theorem ev_161_95 (l2 : Int32) (S : amS) : EV (fun m n => g_161_95 n l2 S) (G_161_95 l2 S) := ev_lim (fun m m' n n' hm hn => fl_161_95 hn l2 S)
noncomputable def B_161_95 (H95 : Int32 → amS → amQ) (l2 : Int32) (S : amS) : amQ := if l2 < 0 then some (.inl none, S) else az_ck l2 120000 (if (S.1 59 l2.toNatClampNeg) = 0 then az_ck l2 120000 (az_st (sI S 58 l2.toNatClampNeg (S.1 34 44)) fun S1 => az_st (sI S1 34 44 l2) fun S2 => G_161_123 H95 l2 S2) else G_161_123 H95 l2 S)
theorem evB_161_95 {N95 : Nat → Nat → Int32 → amS → amQ} {H95 : Int32 → amS → amQ} (hH95 : ∀ a0 S, EV (fun m n => N95 m n a0 S) (H95 a0 S)) (l2 : Int32) (S : amS) : EV (fun m n => h_161_95 n (N95 m n) l2 S) (B_161_95 H95 l2 S) := by
  unfold h_161_95 B_161_95
  exact ev_ite (ev_c) (ev_ck (ev_ite (ev_ck (ev_st (fun _ => ev_st (fun _ => ev_161_123 hH95 _ _)))) (ev_161_123 hH95 _ _)))
theorem G_161_95_eq (l2 : Int32) (S : amS) : G_161_95 l2 S = B_161_95 (G_161_95 ) l2 S := ev_uniq (f := fun m n => g_161_95 (n + 1) l2 S) (ev_shift (ev_161_95 l2 S)) (evB_161_95 (N95 := fun m n => g_161_95 n) (fun a0 S => ev_161_95 a0 S) l2 S)
noncomputable def G_161_62 (l2 : Int32) (S : amS) : amQ := az_lim (fun m n => g_161_62 n l2 S)
theorem ev_161_62 (l2 : Int32) (S : amS) : EV (fun m n => g_161_62 n l2 S) (G_161_62 l2 S) := ev_lim (fun m m' n n' hm hn => fl_161_62 hn l2 S)
noncomputable def B_161_62 (H62 : Int32 → amS → amQ) (l2 : Int32) (S : amS) : amQ := if (S.1 34 39) ≤ l2 then az_st (sI S 34 44 ((-1))) fun S1 => G_161_95 119999 S1 else az_ck l2 2000 (az_bV (G_160 (S.1 55 l2.toNatClampNeg) S) fun S2 => H62 (l2 + 1) S2)
theorem evB_161_62 {N62 : Nat → Nat → Int32 → amS → amQ} {H62 : Int32 → amS → amQ} (hH62 : ∀ a0 S, EV (fun m n => N62 m n a0 S) (H62 a0 S)) (l2 : Int32) (S : amS) : EV (fun m n => h_161_62 n (N62 m n) l2 S) (B_161_62 H62 l2 S) := by
  unfold h_161_62 B_161_62
  exact ev_ite (ev_st (fun _ => ev_161_95 _ _)) (ev_ck (ev_bV (ev_160 _ _) (fun _ => hH62 _ _)))
theorem G_161_62_eq (l2 : Int32) (S : amS) : G_161_62 l2 S = B_161_62 (G_161_62 ) l2 S := ev_uniq (f := fun m n => g_161_62 (n + 1) l2 S) (ev_shift (ev_161_62 l2 S)) (evB_161_62 (N62 := fun m n => g_161_62 n) (fun a0 S => ev_161_62 a0 S) l2 S)
noncomputable def G_161_36 (l2 : Int32) (S : amS) : amQ := az_lim (fun m n => g_161_36 n l2 S)
theorem ev_161_36 (l2 : Int32) (S : amS) : EV (fun m n => g_161_36 n l2 S) (G_161_36 l2 S) := ev_lim (fun m m' n n' hm hn => fl_161_36 hn l2 S)
noncomputable def B_161_36 (H36 : Int32 → amS → amQ) (l2 : Int32) (S : amS) : amQ := if (S.1 34 49) ≤ l2 then G_161_62 0 S else az_ck l2 8000 (az_bV (G_160 (S.1 62 l2.toNatClampNeg) S) fun S1 => H36 (l2 + 1) S1)
theorem evB_161_36 {N36 : Nat → Nat → Int32 → amS → amQ} {H36 : Int32 → amS → amQ} (hH36 : ∀ a0 S, EV (fun m n => N36 m n a0 S) (H36 a0 S)) (l2 : Int32) (S : amS) : EV (fun m n => h_161_36 n (N36 m n) l2 S) (B_161_36 H36 l2 S) := by
  unfold h_161_36 B_161_36
  exact ev_ite (ev_161_62 _ _) (ev_ck (ev_bV (ev_160 _ _) (fun _ => hH36 _ _)))
theorem G_161_36_eq (l2 : Int32) (S : amS) : G_161_36 l2 S = B_161_36 (G_161_36 ) l2 S := ev_uniq (f := fun m n => g_161_36 (n + 1) l2 S) (ev_shift (ev_161_36 l2 S)) (evB_161_36 (N36 := fun m n => g_161_36 n) (fun a0 S => ev_161_36 a0 S) l2 S)
noncomputable def G_161_2 (l1 : Int32) (l2 : Int32) (S : amS) : amQ := az_lim (fun m n => g_161_2 n l1 l2 S)
theorem ev_161_2 (l1 : Int32) (l2 : Int32) (S : amS) : EV (fun m n => g_161_2 n l1 l2 S) (G_161_2 l1 l2 S) := ev_lim (fun m m' n n' hm hn => fl_161_2 hn l1 l2 S)
noncomputable def B_161_2 (H2 : Int32 → Int32 → amS → amQ) (l1 : Int32) (l2 : Int32) (S : amS) : amQ := if 120000 ≤ l2 then az_bV (G_160 (S.1 34 52) S) fun S1 => az_bV (G_160 l1 S1) fun S2 => G_161_36 0 S2 else az_ck l2 120000 (az_st (sI S 59 l2.toNatClampNeg (vp_nar .boolean 0)) fun S3 => H2 l1 (l2 + 1) S3)
theorem evB_161_2 {N2 : Nat → Nat → Int32 → Int32 → amS → amQ} {H2 : Int32 → Int32 → amS → amQ} (hH2 : ∀ a0 a1 S, EV (fun m n => N2 m n a0 a1 S) (H2 a0 a1 S)) (l1 : Int32) (l2 : Int32) (S : amS) : EV (fun m n => h_161_2 n (N2 m n) l1 l2 S) (B_161_2 H2 l1 l2 S) := by
  unfold h_161_2 B_161_2
  exact ev_ite (ev_bV (ev_160 _ _) (fun _ => ev_bV (ev_160 _ _) (fun _ => ev_161_36 _ _))) (ev_ck (ev_st (fun _ => hH2 _ _ _)))
theorem G_161_2_eq (l1 : Int32) (l2 : Int32) (S : amS) : G_161_2 l1 l2 S = B_161_2 (G_161_2 ) l1 l2 S := ev_uniq (f := fun m n => g_161_2 (n + 1) l1 l2 S) (ev_shift (ev_161_2 l1 l2 S)) (evB_161_2 (N2 := fun m n => g_161_2 n) (fun a0 a1 S => ev_161_2 a0 a1 S) l1 l2 S)
noncomputable def G_161 (l1 : Int32) (S : amS) : amQ := G_161_2 l1 0 S
theorem ev_161 (l1 : Int32) (S : amS) : EV (fun m n => g_161 n l1 S) (G_161 l1 S) := by
  unfold g_161 G_161
  exact ev_161_2 _ _ _
theorem fl_162_13 {n n' : Nat} (hn : n ≤ n') (l1 : Int32) (l2 : Int64) (l4 : Int32) (S : amS) : FL (g_162_13 n l1 l2 l4 S) (g_162_13 n' l1 l2 l4 S) := by
  unfold g_162_13
  exact fl_st (fun _ => fl_ck (fl_st (fun _ => fl_ck (fl_st (fun _ => fl_ck (fl_st (fun _ => fl_ck (fl_st (fun _ => fl_refl)))))))))
theorem fl_162 {n n' : Nat} (hn : n ≤ n') (l1 : Int32) (l2 : Int64) (l4 : Int32) (S : amS) : FL (g_162 n l1 l2 l4 S) (g_162 n' l1 l2 l4 S) := by
  unfold g_162
  exact fl_ite (fl_162_13 hn _ _ _ _) (fl_bV (fl_161 hn _ _) (fun _ => fl_162_13 hn _ _ _ _))
noncomputable def G_162_13 (l1 : Int32) (l2 : Int64) (l4 : Int32) (S : amS) : amQ := az_st (S.1 34 44) fun x1 => az_ck x1 120000 (az_st (sI S 34 44 (S.1 58 x1.toNatClampNeg)) fun S2 => az_ck x1 120000 (az_st (sI S2 56 x1.toNatClampNeg l1) fun S3 => az_ck x1 120000 (az_st (sJ S3 57 x1.toNatClampNeg l2) fun S4 => az_ck x1 120000 (az_st (sI S4 58 x1.toNatClampNeg l4) fun S5 => some (.inl (some (.int x1)), S5)))))
theorem ev_162_13 (l1 : Int32) (l2 : Int64) (l4 : Int32) (S : amS) : EV (fun m n => g_162_13 n l1 l2 l4 S) (G_162_13 l1 l2 l4 S) := by
  unfold g_162_13 G_162_13
  exact ev_st (fun _ => ev_ck (ev_st (fun _ => ev_ck (ev_st (fun _ => ev_ck (ev_st (fun _ => ev_ck (ev_st (fun _ => ev_c)))))))))
noncomputable def G_162 (l1 : Int32) (l2 : Int64) (l4 : Int32) (S : amS) : amQ := if 0 ≤ (S.1 34 44) then G_162_13 l1 l2 l4 S else az_bV (G_161 l4 S) fun S1 => G_162_13 l1 l2 l4 S1
theorem ev_162 (l1 : Int32) (l2 : Int64) (l4 : Int32) (S : amS) : EV (fun m n => g_162 n l1 l2 l4 S) (G_162 l1 l2 l4 S) := by
  unfold g_162 G_162
  exact ev_ite (ev_162_13 _ _ _ _) (ev_bV (ev_161 _ _) (fun _ => ev_162_13 _ _ _ _))
theorem flh_163_5 {n n' : Nat} (hn : n ≤ n') {H5 H5' : Int32 → Int32 → amS → amQ} (hH5 : ∀ a0 a1 S, FL (H5 a0 a1 S) (H5' a0 a1 S)) (l1 : Int32) (l2 : Int32) (S : amS) : FL (h_163_5 n H5 l1 l2 S) (h_163_5 n' H5' l1 l2 S) := by
  unfold h_163_5
  exact fl_ck (fl_ite (fl_refl) (fl_ck (fl_st (fun _ => hH5 _ _ _))))
theorem fl_163_5 : ∀ {n n' : Nat} (hn : n ≤ n') (l1 : Int32) (l2 : Int32) (S : amS), FL (g_163_5 n l1 l2 S) (g_163_5 n' l1 l2 S)
  | 0, _, _, _, _, _ => fl_none
  | n + 1, 0, h, _, _, _ => absurd h (Nat.not_succ_le_zero n)
  | n + 1, n' + 1, h, l1, l2, S => flh_163_5 (Nat.le_of_succ_le_succ h) (fun a0 a1 S => fl_163_5 (Nat.le_of_succ_le_succ h) a0 a1 S) l1 l2 S
theorem fl_163 {n n' : Nat} (hn : n ≤ n') (l1 : Int32) (S : amS) : FL (g_163 n l1 S) (g_163 n' l1 S) := by
  unfold g_163
  exact fl_st (fun _ => fl_163_5 hn _ _ _)
noncomputable def G_163_5 (l1 : Int32) (l2 : Int32) (S : amS) : amQ := az_lim (fun m n => g_163_5 n l1 l2 S)
theorem ev_163_5 (l1 : Int32) (l2 : Int32) (S : amS) : EV (fun m n => g_163_5 n l1 l2 S) (G_163_5 l1 l2 S) := ev_lim (fun m m' n n' hm hn => fl_163_5 hn l1 l2 S)
noncomputable def B_163_5 (H5 : Int32 → Int32 → amS → amQ) (l1 : Int32) (l2 : Int32) (S : amS) : amQ := az_ck l2 120000 (if (S.1 56 l2.toNatClampNeg) = l1 then some (.inl (some (.int l2)), S) else az_ck l2 120000 (az_st (S.1 58 l2.toNatClampNeg) fun x1 => H5 l1 x1 S))
theorem evB_163_5 {N5 : Nat → Nat → Int32 → Int32 → amS → amQ} {H5 : Int32 → Int32 → amS → amQ} (hH5 : ∀ a0 a1 S, EV (fun m n => N5 m n a0 a1 S) (H5 a0 a1 S)) (l1 : Int32) (l2 : Int32) (S : amS) : EV (fun m n => h_163_5 n (N5 m n) l1 l2 S) (B_163_5 H5 l1 l2 S) := by
  unfold h_163_5 B_163_5
  exact ev_ck (ev_ite (ev_c) (ev_ck (ev_st (fun _ => hH5 _ _ _))))
theorem G_163_5_eq (l1 : Int32) (l2 : Int32) (S : amS) : G_163_5 l1 l2 S = B_163_5 (G_163_5 ) l1 l2 S := ev_uniq (f := fun m n => g_163_5 (n + 1) l1 l2 S) (ev_shift (ev_163_5 l1 l2 S)) (evB_163_5 (N5 := fun m n => g_163_5 n) (fun a0 a1 S => ev_163_5 a0 a1 S) l1 l2 S)
noncomputable def G_163 (l1 : Int32) (S : amS) : amQ := az_st (S.1 34 52) fun x1 => G_163_5 l1 x1 S
theorem ev_163 (l1 : Int32) (S : amS) : EV (fun m n => g_163 n l1 S) (G_163 l1 S) := by
  unfold g_163 G_163
  exact ev_st (fun _ => ev_163_5 _ _ _)
theorem fl_164_38 {n n' : Nat} (hn : n ≤ n') {H4 H4' : Int32 → Int32 → Int32 → amS → amQ} (hH4 : ∀ a0 a1 a2 S, FL (H4 a0 a1 a2 S) (H4' a0 a1 a2 S)) (l1 : Int32) (l3 : Int32) (s0 : Int32) (s1 : Int32) (S : amS) : FL (g_164_38 n H4 l1 l3 s0 s1 S) (g_164_38 n' H4' l1 l3 s0 s1 S) := by
  unfold g_164_38
  exact fl_st (fun _ => hH4 _ _ _ _)
theorem flh_164_4 {n n' : Nat} (hn : n ≤ n') {H4 H4' : Int32 → Int32 → Int32 → amS → amQ} (hH4 : ∀ a0 a1 a2 S, FL (H4 a0 a1 a2 S) (H4' a0 a1 a2 S)) (l1 : Int32) (l2 : Int32) (l3 : Int32) (S : amS) : FL (h_164_4 n H4 l1 l2 l3 S) (h_164_4 n' H4' l1 l2 l3 S) := by
  unfold h_164_4
  exact fl_ck (fl_ite (fl_refl) (fl_ck (fl_ck (fl_ite (fl_164_38 hn hH4 _ _ _ _ _) (fl_164_38 hn hH4 _ _ _ _ _)))))
theorem fl_164_4 : ∀ {n n' : Nat} (hn : n ≤ n') (l1 : Int32) (l2 : Int32) (l3 : Int32) (S : amS), FL (g_164_4 n l1 l2 l3 S) (g_164_4 n' l1 l2 l3 S)
  | 0, _, _, _, _, _, _ => fl_none
  | n + 1, 0, h, _, _, _, _ => absurd h (Nat.not_succ_le_zero n)
  | n + 1, n' + 1, h, l1, l2, l3, S => flh_164_4 (Nat.le_of_succ_le_succ h) (fun a0 a1 a2 S => fl_164_4 (Nat.le_of_succ_le_succ h) a0 a1 a2 S) l1 l2 l3 S
theorem fl_164 {n n' : Nat} (hn : n ≤ n') (l1 : Int32) (S : amS) : FL (g_164 n l1 S) (g_164 n' l1 S) := by
  unfold g_164
  exact fl_164_4 hn _ _ _ _
noncomputable def G_164_38 (H4 : Int32 → Int32 → Int32 → amS → amQ) (l1 : Int32) (l3 : Int32) (s0 : Int32) (s1 : Int32) (S : amS) : amQ := az_st (s0 + s1) fun x1 => H4 l1 x1 (l3 + 1) S
theorem ev_164_38 {N4 : Nat → Nat → Int32 → Int32 → Int32 → amS → amQ} {H4 : Int32 → Int32 → Int32 → amS → amQ} (hH4 : ∀ a0 a1 a2 S, EV (fun m n => N4 m n a0 a1 a2 S) (H4 a0 a1 a2 S)) (l1 : Int32) (l3 : Int32) (s0 : Int32) (s1 : Int32) (S : amS) : EV (fun m n => g_164_38 n (N4 m n) l1 l3 s0 s1 S) (G_164_38 H4 l1 l3 s0 s1 S) := by
  unfold g_164_38 G_164_38
  exact ev_st (fun _ => hH4 _ _ _ _)
noncomputable def G_164_4 (l1 : Int32) (l2 : Int32) (l3 : Int32) (S : amS) : amQ := az_lim (fun m n => g_164_4 n l1 l2 l3 S)
theorem ev_164_4 (l1 : Int32) (l2 : Int32) (l3 : Int32) (S : amS) : EV (fun m n => g_164_4 n l1 l2 l3 S) (G_164_4 l1 l2 l3 S) := ev_lim (fun m m' n n' hm hn => fl_164_4 hn l1 l2 l3 S)
noncomputable def B_164_4 (H4 : Int32 → Int32 → Int32 → amS → amQ) (l1 : Int32) (l2 : Int32) (l3 : Int32) (S : amS) : amQ := az_ck l1 256 (if (S.1 44 l1.toNatClampNeg) ≤ l3 then some (.inl (some (.int l2)), S) else az_ck ((4 * l1) + l3) 1024 (az_ck (S.1 43 ((4 * l1) + l3).toNatClampNeg) 256 (if (S.1 46 (S.1 43 ((4 * l1) + l3).toNatClampNeg).toNatClampNeg) = 0 then G_164_38 H4 l1 l3 l2 0 S else G_164_38 H4 l1 l3 l2 1 S)))
theorem evB_164_4 {N4 : Nat → Nat → Int32 → Int32 → Int32 → amS → amQ} {H4 : Int32 → Int32 → Int32 → amS → amQ} (hH4 : ∀ a0 a1 a2 S, EV (fun m n => N4 m n a0 a1 a2 S) (H4 a0 a1 a2 S)) (l1 : Int32) (l2 : Int32) (l3 : Int32) (S : amS) : EV (fun m n => h_164_4 n (N4 m n) l1 l2 l3 S) (B_164_4 H4 l1 l2 l3 S) := by
  unfold h_164_4 B_164_4
  exact ev_ck (ev_ite (ev_c) (ev_ck (ev_ck (ev_ite (ev_164_38 hH4 _ _ _ _ _) (ev_164_38 hH4 _ _ _ _ _)))))
theorem G_164_4_eq (l1 : Int32) (l2 : Int32) (l3 : Int32) (S : amS) : G_164_4 l1 l2 l3 S = B_164_4 (G_164_4 ) l1 l2 l3 S := ev_uniq (f := fun m n => g_164_4 (n + 1) l1 l2 l3 S) (ev_shift (ev_164_4 l1 l2 l3 S)) (evB_164_4 (N4 := fun m n => g_164_4 n) (fun a0 a1 a2 S => ev_164_4 a0 a1 a2 S) l1 l2 l3 S)
noncomputable def G_164 (l1 : Int32) (S : amS) : amQ := G_164_4 l1 0 0 S
theorem ev_164 (l1 : Int32) (S : amS) : EV (fun m n => g_164 n l1 S) (G_164 l1 S) := by
  unfold g_164 G_164
  exact ev_164_4 _ _ _ _
theorem flh_167_42 {n n' : Nat} (hn : n ≤ n') {H42 H42' : Int32 → Int32 → Int32 → amS → amQ} (hH42 : ∀ a0 a1 a2 S, FL (H42 a0 a1 a2 S) (H42' a0 a1 a2 S)) (l2 : Int32) (l3 : Int32) (l4 : Int32) (S : amS) : FL (h_167_42 n H42 l2 l3 l4 S) (h_167_42 n' H42' l2 l3 l4 S) := by
  unfold h_167_42
  exact fl_ite (fl_refl) (fl_ck (fl_st (fun _ => hH42 _ _ _ _)))
theorem fl_167_42 : ∀ {n n' : Nat} (hn : n ≤ n') (l2 : Int32) (l3 : Int32) (l4 : Int32) (S : amS), FL (g_167_42 n l2 l3 l4 S) (g_167_42 n' l2 l3 l4 S)
  | 0, _, _, _, _, _, _ => fl_none
  | n + 1, 0, h, _, _, _, _ => absurd h (Nat.not_succ_le_zero n)
  | n + 1, n' + 1, h, l2, l3, l4, S => flh_167_42 (Nat.le_of_succ_le_succ h) (fun a0 a1 a2 S => fl_167_42 (Nat.le_of_succ_le_succ h) a0 a1 a2 S) l2 l3 l4 S
theorem fl_167_38 {n n' : Nat} (hn : n ≤ n') (l2 : Int32) (s0 : Int32) (S : amS) : FL (g_167_38 n l2 s0 S) (g_167_38 n' l2 s0 S) := by
  unfold g_167_38
  exact fl_167_42 hn _ _ _ _
theorem fl_167_28 {n n' : Nat} (hn : n ≤ n') (l1 : Int32) (l2 : Int32) (S : amS) : FL (g_167_28 n l1 l2 S) (g_167_28 n' l1 l2 S) := by
  unfold g_167_28
  exact fl_ck (fl_167_38 hn _ _ _)
theorem fl_167 {n n' : Nat} (hn : n ≤ n') (l1 : Int32) (S : amS) : FL (g_167 n l1 S) (g_167 n' l1 S) := by
  unfold g_167
  exact fl_ck (fl_st (fun _ => fl_ck (fl_ite (fl_167_28 hn _ _ _) (fl_ck (fl_ite (fl_167_28 hn _ _ _) (fl_167_38 hn _ _ _))))))
noncomputable def G_167_42 (l2 : Int32) (l3 : Int32) (l4 : Int32) (S : amS) : amQ := az_lim (fun m n => g_167_42 n l2 l3 l4 S)
theorem ev_167_42 (l2 : Int32) (l3 : Int32) (l4 : Int32) (S : amS) : EV (fun m n => g_167_42 n l2 l3 l4 S) (G_167_42 l2 l3 l4 S) := ev_lim (fun m m' n n' hm hn => fl_167_42 hn l2 l3 l4 S)
noncomputable def B_167_42 (H42 : Int32 → Int32 → Int32 → amS → amQ) (l2 : Int32) (l3 : Int32) (l4 : Int32) (S : amS) : amQ := if l3 ≤ l4 then some (.inl (some (.int l2)), S) else az_ck l2 256 (az_st (S.1 41 l2.toNatClampNeg) fun x1 => H42 x1 l3 (l4 + 1) S)
theorem evB_167_42 {N42 : Nat → Nat → Int32 → Int32 → Int32 → amS → amQ} {H42 : Int32 → Int32 → Int32 → amS → amQ} (hH42 : ∀ a0 a1 a2 S, EV (fun m n => N42 m n a0 a1 a2 S) (H42 a0 a1 a2 S)) (l2 : Int32) (l3 : Int32) (l4 : Int32) (S : amS) : EV (fun m n => h_167_42 n (N42 m n) l2 l3 l4 S) (B_167_42 H42 l2 l3 l4 S) := by
  unfold h_167_42 B_167_42
  exact ev_ite (ev_c) (ev_ck (ev_st (fun _ => hH42 _ _ _ _)))
theorem G_167_42_eq (l2 : Int32) (l3 : Int32) (l4 : Int32) (S : amS) : G_167_42 l2 l3 l4 S = B_167_42 (G_167_42 ) l2 l3 l4 S := ev_uniq (f := fun m n => g_167_42 (n + 1) l2 l3 l4 S) (ev_shift (ev_167_42 l2 l3 l4 S)) (evB_167_42 (N42 := fun m n => g_167_42 n) (fun a0 a1 a2 S => ev_167_42 a0 a1 a2 S) l2 l3 l4 S)
noncomputable def G_167_38 (l2 : Int32) (s0 : Int32) (S : amS) : amQ := G_167_42 l2 s0 0 S
theorem ev_167_38 (l2 : Int32) (s0 : Int32) (S : amS) : EV (fun m n => g_167_38 n l2 s0 S) (G_167_38 l2 s0 S) := by
  unfold g_167_38 G_167_38
  exact ev_167_42 _ _ _ _
noncomputable def G_167_28 (l1 : Int32) (l2 : Int32) (S : amS) : amQ := az_ck l1 256 (G_167_38 l2 (S.1 44 l1.toNatClampNeg) S)
theorem ev_167_28 (l1 : Int32) (l2 : Int32) (S : amS) : EV (fun m n => g_167_28 n l1 l2 S) (G_167_28 l1 l2 S) := by
  unfold g_167_28 G_167_28
  exact ev_ck (ev_167_38 _ _ _)
noncomputable def G_167 (l1 : Int32) (S : amS) : amQ := az_ck l1 256 (az_st (S.1 39 l1.toNatClampNeg) fun x1 => az_ck l1 256 (if (S.1 36 l1.toNatClampNeg) = 5 then G_167_28 l1 x1 S else az_ck l1 256 (if (S.1 36 l1.toNatClampNeg) = 6 then G_167_28 l1 x1 S else G_167_38 x1 0 S)))
theorem ev_167 (l1 : Int32) (S : amS) : EV (fun m n => g_167 n l1 S) (G_167 l1 S) := by
  unfold g_167 G_167
  exact ev_ck (ev_st (fun _ => ev_ck (ev_ite (ev_167_28 _ _ _) (ev_ck (ev_ite (ev_167_28 _ _ _) (ev_167_38 _ _ _))))))
theorem fl_168 {n n' : Nat} (hn : n ≤ n') (S : amS) : FL (g_168 n S) (g_168 n' S) := by
  unfold g_168
  exact fl_st (fun _ => fl_st (fun _ => fl_ck (fl_st (fun _ => fl_ite (fl_ck (fl_bJ (fl_refl) (fun _ _ => fl_st (fun _ => fl_refl)))) (fl_ite (fl_bJ (fl_refl) (fun _ _ => fl_st (fun _ => fl_refl))) (fl_ite (fl_ck (fl_bI (fl_163 hn _ _) (fun _ _ => fl_ck (fl_st (fun _ => fl_refl))))) (fl_ite (fl_bI (fl_refl) (fun _ _ => fl_ite (fl_refl) (fl_st (fun _ => fl_ck (fl_st (fun _ => fl_st (fun _ => fl_ck (fl_st (fun _ => fl_bJ (fl_refl) (fun _ _ => fl_st (fun _ => fl_st (fun _ => fl_refl)))))))))))) (fl_ite (fl_bV (fl_refl) (fun _ => fl_ck (fl_st (fun _ => fl_refl)))) (fl_ite (fl_bV (fl_refl) (fun _ => fl_ck (fl_st (fun _ => fl_refl)))) (fl_ite (fl_bI (fl_refl) (fun _ _ => fl_ite (fl_refl) (fl_ck (fl_bJ (fl_refl) (fun _ _ => fl_bI (fl_162 hn _ _ _ _) (fun _ _ => fl_st (fun _ => fl_bV (fl_refl) (fun _ => fl_ck (fl_st (fun _ => fl_refl)))))))))) (fl_ite (fl_bV (fl_refl) (fun _ => fl_ck (fl_st (fun _ => fl_refl)))) (fl_ite (fl_ck (fl_bV (fl_refl) (fun _ => fl_refl))) (fl_bV (fl_refl) (fun _ => fl_ck (fl_st (fun _ => fl_refl))))))))))))))))
noncomputable def G_168 (S : amS) : amQ := az_st (S.1 34 53) fun x1 => az_st (sI S 34 53 ((-1))) fun S2 => az_ck x1 256 (az_st (S2.1 36 x1.toNatClampNeg) fun x3 => if x3 = 0 then (az_ck x1 256 (az_bJ (g_155 (S2.1 38 x1.toNatClampNeg) S2) fun x4 S5 => az_st (sJ S5 34 54 x4) fun S6 => some (.inl none, S6))) else if x3 = 1 then (az_bJ (g_156 1 0 S2) fun x7 S8 => az_st (sJ S8 34 54 x7) fun S9 => some (.inl none, S9)) else if x3 = 2 then (az_ck x1 256 (az_bI (G_163 (S2.1 38 x1.toNatClampNeg) S2) fun x10 S11 => az_ck x10 120000 (az_st (sJ S11 34 54 (S11.2 57 x10.toNatClampNeg)) fun S12 => some (.inl none, S12)))) else if x3 = 3 then (az_bI (g_158 1 x1 S2) fun x13 S14 => if x13 = 0 then some (.inl none, S14) else az_st (S14.1 34 39) fun x16 => az_ck x16 2000 (az_st (sI S14 54 x16.toNatClampNeg x1) fun S17 => az_st (S17.1 34 39) fun x19 => az_ck x19 2000 (az_st (sI S17 55 x19.toNatClampNeg (S17.1 34 52)) fun S20 => az_bJ (g_156 3 (S20.1 34 39) S20) fun x21 S22 => az_st (sJ S22 34 54 x21) fun S23 => az_st (sI S23 34 39 ((S23.1 34 39) + 1)) fun S24 => some (.inl none, S24)))) else if x3 = 4 then (az_bV (g_165 1 x1 S2) fun S25 => az_ck x1 256 (az_st (sI S25 34 53 (S25.1 39 x1.toNatClampNeg)) fun S26 => some (.inl none, S26))) else if x3 = 5 then (az_bV (g_165 2 x1 S2) fun S27 => az_ck x1 256 (az_st (sI S27 34 53 (S27.1 39 x1.toNatClampNeg)) fun S28 => some (.inl none, S28))) else if x3 = 6 then (az_bI (g_158 1 x1 S2) fun x29 S30 => if x29 = 0 then some (.inl none, S30) else az_ck (4 * x1) 1024 (az_bJ (g_156 1 0 S30) fun x31 S32 => az_bI (G_162 (S30.1 43 (4 * x1).toNatClampNeg) x31 (S32.1 34 52) S32) fun x33 S34 => az_st (sI S34 34 52 x33) fun S35 => az_bV (g_165 3 x1 S35) fun S36 => az_ck x1 256 (az_st (sI S36 34 53 (S36.1 39 x1.toNatClampNeg)) fun S37 => some (.inl none, S37)))) else if x3 = 7 then (az_bV (g_165 4 x1 S2) fun S38 => az_ck x1 256 (az_st (sI S38 34 53 (S38.1 39 x1.toNatClampNeg)) fun S39 => some (.inl none, S39))) else if x3 = 8 then (az_ck x1 256 (az_bV (g_166 (S2.1 39 x1.toNatClampNeg) S2) fun S40 => some (.inl none, S40))) else az_bV (g_165 5 x1 S2) fun S41 => az_ck x1 256 (az_st (sI S41 34 53 (S41.1 39 x1.toNatClampNeg)) fun S42 => some (.inl none, S42)))
theorem ev_168 (S : amS) : EV (fun m n => g_168 n S) (G_168 S) := by
  unfold g_168 G_168
  exact ev_st (fun _ => ev_st (fun _ => ev_ck (ev_st (fun _ => ev_ite (ev_ck (ev_bJ (ev_c) (fun _ _ => ev_st (fun _ => ev_c)))) (ev_ite (ev_bJ (ev_c) (fun _ _ => ev_st (fun _ => ev_c))) (ev_ite (ev_ck (ev_bI (ev_163 _ _) (fun _ _ => ev_ck (ev_st (fun _ => ev_c))))) (ev_ite (ev_bI (ev_c) (fun _ _ => ev_ite (ev_c) (ev_st (fun _ => ev_ck (ev_st (fun _ => ev_st (fun _ => ev_ck (ev_st (fun _ => ev_bJ (ev_c) (fun _ _ => ev_st (fun _ => ev_st (fun _ => ev_c)))))))))))) (ev_ite (ev_bV (ev_c) (fun _ => ev_ck (ev_st (fun _ => ev_c)))) (ev_ite (ev_bV (ev_c) (fun _ => ev_ck (ev_st (fun _ => ev_c)))) (ev_ite (ev_bI (ev_c) (fun _ _ => ev_ite (ev_c) (ev_ck (ev_bJ (ev_c) (fun _ _ => ev_bI (ev_162 _ _ _ _) (fun _ _ => ev_st (fun _ => ev_bV (ev_c) (fun _ => ev_ck (ev_st (fun _ => ev_c)))))))))) (ev_ite (ev_bV (ev_c) (fun _ => ev_ck (ev_st (fun _ => ev_c)))) (ev_ite (ev_ck (ev_bV (ev_c) (fun _ => ev_c))) (ev_bV (ev_c) (fun _ => ev_ck (ev_st (fun _ => ev_c))))))))))))))))
theorem flh_169_33 {n n' : Nat} (hn : n ≤ n') {H33 H33' : Int32 → Int32 → Int32 → amS → amQ} (hH33 : ∀ a0 a1 a2 S, FL (H33 a0 a1 a2 S) (H33' a0 a1 a2 S)) (l1 : Int32) (l2 : Int32) (l3 : Int32) (S : amS) : FL (h_169_33 n H33 l1 l2 l3 S) (h_169_33 n' H33' l1 l2 l3 S) := by
  unfold h_169_33
  exact fl_ite (fl_bI (fl_167 hn _ _) (fun _ _ => fl_bV (fl_refl) (fun _ => fl_refl))) (fl_ck (fl_ck (fl_bI (fl_162 hn _ _ _ _) (fun _ _ => fl_st (fun _ => hH33 _ _ _ _)))))
theorem fl_169_33 : ∀ {n n' : Nat} (hn : n ≤ n') (l1 : Int32) (l2 : Int32) (l3 : Int32) (S : amS), FL (g_169_33 n l1 l2 l3 S) (g_169_33 n' l1 l2 l3 S)
  | 0, _, _, _, _, _, _ => fl_none
  | n + 1, 0, h, _, _, _, _ => absurd h (Nat.not_succ_le_zero n)
  | n + 1, n' + 1, h, l1, l2, l3, S => flh_169_33 (Nat.le_of_succ_le_succ h) (fun a0 a1 a2 S => fl_169_33 (Nat.le_of_succ_le_succ h) a0 a1 a2 S) l1 l2 l3 S
theorem fl_169 {n n' : Nat} (hn : n ≤ n') (l1 : Int32) (S : amS) : FL (g_169 n l1 S) (g_169 n' l1 S) := by
  unfold g_169
  exact fl_ck (fl_st (fun _ => fl_bI (fl_164 hn _ _) (fun _ _ => fl_bI (fl_refl) (fun _ _ => fl_ite (fl_refl) (fl_st (fun _ => fl_169_33 hn _ _ _ _))))))
noncomputable def G_169_33 (l1 : Int32) (l2 : Int32) (l3 : Int32) (S : amS) : amQ := az_lim (fun m n => g_169_33 n l1 l2 l3 S)
theorem ev_169_33 (l1 : Int32) (l2 : Int32) (l3 : Int32) (S : amS) : EV (fun m n => g_169_33 n l1 l2 l3 S) (G_169_33 l1 l2 l3 S) := ev_lim (fun m m' n n' hm hn => fl_169_33 hn l1 l2 l3 S)
noncomputable def B_169_33 (H33 : Int32 → Int32 → Int32 → amS → amQ) (l1 : Int32) (l2 : Int32) (l3 : Int32) (S : amS) : amQ := if l2 ≤ l3 then az_bI (G_167 l1 S) fun x1 S2 => az_bV (g_166 x1 S2) fun S3 => some (.inl none, S3) else az_ck ((4 * l1) + l3) 1024 (az_ck ((S.1 34 51) + l3) 16000 (az_bI (G_162 (S.1 43 ((4 * l1) + l3).toNatClampNeg) (S.2 64 ((S.1 34 51) + l3).toNatClampNeg) (S.1 34 52) S) fun x4 S5 => az_st (sI S5 34 52 x4) fun S6 => H33 l1 l2 (l3 + 1) S6))
theorem evB_169_33 {N33 : Nat → Nat → Int32 → Int32 → Int32 → amS → amQ} {H33 : Int32 → Int32 → Int32 → amS → amQ} (hH33 : ∀ a0 a1 a2 S, EV (fun m n => N33 m n a0 a1 a2 S) (H33 a0 a1 a2 S)) (l1 : Int32) (l2 : Int32) (l3 : Int32) (S : amS) : EV (fun m n => h_169_33 n (N33 m n) l1 l2 l3 S) (B_169_33 H33 l1 l2 l3 S) := by
  unfold h_169_33 B_169_33
  exact ev_ite (ev_bI (ev_167 _ _) (fun _ _ => ev_bV (ev_c) (fun _ => ev_c))) (ev_ck (ev_ck (ev_bI (ev_162 _ _ _ _) (fun _ _ => ev_st (fun _ => hH33 _ _ _ _)))))
theorem G_169_33_eq (l1 : Int32) (l2 : Int32) (l3 : Int32) (S : amS) : G_169_33 l1 l2 l3 S = B_169_33 (G_169_33 ) l1 l2 l3 S := ev_uniq (f := fun m n => g_169_33 (n + 1) l1 l2 l3 S) (ev_shift (ev_169_33 l1 l2 l3 S)) (evB_169_33 (N33 := fun m n => g_169_33 n) (fun a0 a1 a2 S => ev_169_33 a0 a1 a2 S) l1 l2 l3 S)
noncomputable def G_169 (l1 : Int32) (S : amS) : amQ := az_ck l1 256 (az_st (S.1 44 l1.toNatClampNeg) fun x1 => az_bI (G_164 l1 S) fun x2 S3 => az_bI (g_158 x2 l1 S3) fun x4 S5 => if x4 = 0 then some (.inl none, S5) else az_st (sI S5 34 51 ((S5.1 34 51) - x1)) fun S6 => G_169_33 l1 x1 0 S6)
theorem ev_169 (l1 : Int32) (S : amS) : EV (fun m n => g_169 n l1 S) (G_169 l1 S) := by
  unfold g_169 G_169
  exact ev_ck (ev_st (fun _ => ev_bI (ev_164 _ _) (fun _ _ => ev_bI (ev_c) (fun _ _ => ev_ite (ev_c) (ev_st (fun _ => ev_169_33 _ _ _ _))))))
theorem flh_170_155 {n n' : Nat} (hn : n ≤ n') {H155 H155' : Int32 → Int32 → Int32 → amS → amQ} (hH155 : ∀ a0 a1 a2 S, FL (H155 a0 a1 a2 S) (H155' a0 a1 a2 S)) (l2 : Int32) (l5 : Int32) (l6 : Int32) (S : amS) : FL (h_170_155 n H155 l2 l5 l6 S) (h_170_155 n' H155' l2 l5 l6 S) := by
  unfold h_170_155
  exact fl_ite (fl_ck (fl_bV (fl_refl) (fun _ => fl_refl))) (fl_ck (fl_ck (fl_bI (fl_162 hn _ _ _ _) (fun _ _ => fl_st (fun _ => hH155 _ _ _ _)))))
theorem fl_170_155 : ∀ {n n' : Nat} (hn : n ≤ n') (l2 : Int32) (l5 : Int32) (l6 : Int32) (S : amS), FL (g_170_155 n l2 l5 l6 S) (g_170_155 n' l2 l5 l6 S)
  | 0, _, _, _, _, _, _ => fl_none
  | n + 1, 0, h, _, _, _, _ => absurd h (Nat.not_succ_le_zero n)
  | n + 1, n' + 1, h, l2, l5, l6, S => flh_170_155 (Nat.le_of_succ_le_succ h) (fun a0 a1 a2 S => fl_170_155 (Nat.le_of_succ_le_succ h) a0 a1 a2 S) l2 l5 l6 S
theorem fl_170_126 {n n' : Nat} (hn : n ≤ n') (l1 : Int32) (l2 : Int32) (l3 : Int64) (l5 : Int32) (S : amS) : FL (g_170_126 n l1 l2 l3 l5 S) (g_170_126 n' l1 l2 l3 l5 S) := by
  unfold g_170_126
  exact fl_bI (fl_164 hn _ _) (fun _ _ => fl_bI (fl_refl) (fun _ _ => fl_ite (fl_refl) (fl_ck (fl_st (fun _ => fl_170_155 hn _ _ _ _)))))
theorem fl_170_100 {n n' : Nat} (hn : n ≤ n') (l1 : Int32) (l2 : Int32) (l3 : Int64) (l5 : Int32) (S : amS) : FL (g_170_100 n l1 l2 l3 l5 S) (g_170_100 n' l1 l2 l3 l5 S) := by
  unfold g_170_100
  exact fl_ck (fl_ite (fl_bV (fl_refl) (fun _ => fl_st (fun _ => fl_170_126 hn _ _ _ _ _))) (fl_170_126 hn _ _ _ _ _))
theorem fl_170_68 {n n' : Nat} (hn : n ≤ n') (l1 : Int32) (S : amS) : FL (g_170_68 n l1 S) (g_170_68 n' l1 S) := by
  unfold g_170_68
  exact fl_bV (fl_refl) (fun _ => fl_refl)
theorem fl_170_50 {n n' : Nat} (hn : n ≤ n') (l1 : Int32) (l2 : Int32) (l3 : Int64) (s0 : Int32) (S : amS) : FL (g_170_50 n l1 l2 l3 s0 S) (g_170_50 n' l1 l2 l3 s0 S) := by
  unfold g_170_50
  exact fl_ite (fl_170_68 hn _ _) (fl_ck (fl_ite (fl_ck (fl_ite (fl_ite (fl_bV (fl_refl) (fun _ => fl_refl)) (fl_170_100 hn _ _ _ _ _)) (fl_170_100 hn _ _ _ _ _))) (fl_170_68 hn _ _)))
theorem fl_170 {n n' : Nat} (hn : n ≤ n') (l1 : Int32) (S : amS) : FL (g_170 n l1 S) (g_170 n' l1 S) := by
  unfold g_170
  exact fl_ck (fl_st (fun _ => fl_st (fun _ => fl_ck (fl_st (fun _ => fl_bI (fl_refl) (fun _ _ => fl_ite (fl_ck (fl_170_50 hn _ _ _ _ _)) (fl_170_50 hn _ _ _ _ _)))))))
noncomputable def G_170_155 (l2 : Int32) (l5 : Int32) (l6 : Int32) (S : amS) : amQ := az_lim (fun m n => g_170_155 n l2 l5 l6 S)
theorem ev_170_155 (l2 : Int32) (l5 : Int32) (l6 : Int32) (S : amS) : EV (fun m n => g_170_155 n l2 l5 l6 S) (G_170_155 l2 l5 l6 S) := ev_lim (fun m m' n n' hm hn => fl_170_155 hn l2 l5 l6 S)
noncomputable def B_170_155 (H155 : Int32 → Int32 → Int32 → amS → amQ) (l2 : Int32) (l5 : Int32) (l6 : Int32) (S : amS) : amQ := if l2 ≤ l6 then az_ck l5 256 (az_bV (g_166 (S.1 39 l5.toNatClampNeg) S) fun S1 => some (.inl none, S1)) else az_ck ((4 * l5) + l6) 1024 (az_ck (((S.1 34 51) + 1) + l6) 16000 (az_bI (G_162 (S.1 43 ((4 * l5) + l6).toNatClampNeg) (S.2 64 (((S.1 34 51) + 1) + l6).toNatClampNeg) (S.1 34 52) S) fun x2 S3 => az_st (sI S3 34 52 x2) fun S4 => H155 l2 l5 (l6 + 1) S4))
theorem evB_170_155 {N155 : Nat → Nat → Int32 → Int32 → Int32 → amS → amQ} {H155 : Int32 → Int32 → Int32 → amS → amQ} (hH155 : ∀ a0 a1 a2 S, EV (fun m n => N155 m n a0 a1 a2 S) (H155 a0 a1 a2 S)) (l2 : Int32) (l5 : Int32) (l6 : Int32) (S : amS) : EV (fun m n => h_170_155 n (N155 m n) l2 l5 l6 S) (B_170_155 H155 l2 l5 l6 S) := by
  unfold h_170_155 B_170_155
  exact ev_ite (ev_ck (ev_bV (ev_c) (fun _ => ev_c))) (ev_ck (ev_ck (ev_bI (ev_162 _ _ _ _) (fun _ _ => ev_st (fun _ => hH155 _ _ _ _)))))
theorem G_170_155_eq (l2 : Int32) (l5 : Int32) (l6 : Int32) (S : amS) : G_170_155 l2 l5 l6 S = B_170_155 (G_170_155 ) l2 l5 l6 S := ev_uniq (f := fun m n => g_170_155 (n + 1) l2 l5 l6 S) (ev_shift (ev_170_155 l2 l5 l6 S)) (evB_170_155 (N155 := fun m n => g_170_155 n) (fun a0 a1 a2 S => ev_170_155 a0 a1 a2 S) l2 l5 l6 S)
noncomputable def G_170_126 (l1 : Int32) (l2 : Int32) (l3 : Int64) (l5 : Int32) (S : amS) : amQ := az_bI (G_164 l5 S) fun x1 S2 => az_bI (g_158 x1 l1 S2) fun x3 S4 => if x3 = 0 then some (.inl none, S4) else az_ck (Int64.toInt32 l3) 2000 (az_st (sI S4 34 52 (S4.1 55 (Int64.toInt32 l3).toNatClampNeg)) fun S5 => G_170_155 l2 l5 0 S5)
theorem ev_170_126 (l1 : Int32) (l2 : Int32) (l3 : Int64) (l5 : Int32) (S : amS) : EV (fun m n => g_170_126 n l1 l2 l3 l5 S) (G_170_126 l1 l2 l3 l5 S) := by
  unfold g_170_126 G_170_126
  exact ev_bI (ev_164 _ _) (fun _ _ => ev_bI (ev_c) (fun _ _ => ev_ite (ev_c) (ev_ck (ev_st (fun _ => ev_170_155 _ _ _ _)))))
noncomputable def G_170_100 (l1 : Int32) (l2 : Int32) (l3 : Int64) (l5 : Int32) (S : amS) : amQ := az_ck l1 256 (if (S.1 45 l1.toNatClampNeg) = 0 then az_bV (g_165 6 l1 S) fun S1 => az_st (sI S1 34 32 ((S1.1 34 32) + 1)) fun S2 => G_170_126 l1 l2 l3 l5 S2 else G_170_126 l1 l2 l3 l5 S)
theorem ev_170_100 (l1 : Int32) (l2 : Int32) (l3 : Int64) (l5 : Int32) (S : amS) : EV (fun m n => g_170_100 n l1 l2 l3 l5 S) (G_170_100 l1 l2 l3 l5 S) := by
  unfold g_170_100 G_170_100
  exact ev_ck (ev_ite (ev_bV (ev_c) (fun _ => ev_st (fun _ => ev_170_126 _ _ _ _ _))) (ev_170_126 _ _ _ _ _))
noncomputable def G_170_68 (l1 : Int32) (S : amS) : amQ := az_bV (g_159 3 l1 S) fun S1 => some (.inl none, S1)
theorem ev_170_68 (l1 : Int32) (S : amS) : EV (fun m n => g_170_68 n l1 S) (G_170_68 l1 S) := by
  unfold g_170_68 G_170_68
  exact ev_bV (ev_c) (fun _ => ev_c)
noncomputable def G_170_50 (l1 : Int32) (l2 : Int32) (l3 : Int64) (s0 : Int32) (S : amS) : amQ := if s0 < 0 then G_170_68 l1 S else az_ck s0 256 (if (S.1 44 s0.toNatClampNeg) = l2 then az_ck l1 256 (if (S.1 45 l1.toNatClampNeg) = 0 then if (S.1 34 32) = 60 then az_bV (g_159 4 l1 S) fun S1 => some (.inl none, S1) else G_170_100 l1 l2 l3 s0 S else G_170_100 l1 l2 l3 s0 S) else G_170_68 l1 S)
theorem ev_170_50 (l1 : Int32) (l2 : Int32) (l3 : Int64) (s0 : Int32) (S : amS) : EV (fun m n => g_170_50 n l1 l2 l3 s0 S) (G_170_50 l1 l2 l3 s0 S) := by
  unfold g_170_50 G_170_50
  exact ev_ite (ev_170_68 _ _) (ev_ck (ev_ite (ev_ck (ev_ite (ev_ite (ev_bV (ev_c) (fun _ => ev_c)) (ev_170_100 _ _ _ _ _)) (ev_170_100 _ _ _ _ _))) (ev_170_68 _ _)))
noncomputable def G_170 (l1 : Int32) (S : amS) : amQ := az_ck l1 256 (az_st ((S.1 42 l1.toNatClampNeg) - 1) fun x1 => az_st (sI S 34 51 ((S.1 34 51) - (x1 + 1))) fun S2 => az_ck (S2.1 34 51) 16000 (az_st (S2.2 64 (S2.1 34 51).toNatClampNeg) fun x3 => az_bI (g_157 x3 S2) fun x4 S5 => if x4 = 3 then az_ck (Int64.toInt32 x3) 2000 (G_170_50 l1 x1 x3 (S5.1 54 (Int64.toInt32 x3).toNatClampNeg) S5) else G_170_50 l1 x1 x3 ((-1)) S5))
theorem ev_170 (l1 : Int32) (S : amS) : EV (fun m n => g_170 n l1 S) (G_170 l1 S) := by
  unfold g_170 G_170
  exact ev_ck (ev_st (fun _ => ev_st (fun _ => ev_ck (ev_st (fun _ => ev_bI (ev_c) (fun _ _ => ev_ite (ev_ck (ev_170_50 _ _ _ _ _)) (ev_170_50 _ _ _ _ _)))))))
theorem fl_172_336 {n n' : Nat} (hn : n ≤ n') (l2 : Int32) (S : amS) : FL (g_172_336 n l2 S) (g_172_336 n' l2 S) := by
  unfold g_172_336
  exact fl_ck (fl_ite (fl_bV (fl_170 hn _ _) (fun _ => fl_refl)) (fl_bV (fl_refl) (fun _ => fl_refl)))
theorem fl_172_254 {n n' : Nat} (hn : n ≤ n') (s1 : Int32) (S : amS) : FL (g_172_254 n s1 S) (g_172_254 n' s1 S) := by
  unfold g_172_254
  exact fl_st (fun _ => fl_refl)
theorem fl_172_164 {n n' : Nat} (hn : n ≤ n') (l2 : Int32) (l3 : Int32) (S : amS) : FL (g_172_164 n l2 l3 S) (g_172_164 n' l2 l3 S) := by
  unfold g_172_164
  exact fl_st (fun _ => fl_ite (fl_bV (fl_refl) (fun _ => fl_refl)) (fl_ite (fl_ite (fl_ck (fl_172_254 hn _ _)) (fl_ck (fl_ck (fl_172_254 hn _ _)))) (fl_ite (fl_bV (fl_169 hn _ _) (fun _ => fl_refl)) (fl_ite (fl_ck (fl_bI (fl_163 hn _ _) (fun _ _ => fl_ck (fl_st (fun _ => fl_bI (fl_167 hn _ _) (fun _ _ => fl_bV (fl_refl) (fun _ => fl_refl))))))) (fl_ite (fl_ck (fl_bI (fl_163 hn _ _) (fun _ _ => fl_ck (fl_st (fun _ => fl_refl))))) (fl_ite (fl_172_336 hn _ _) (fl_ite (fl_st (fun _ => fl_refl)) (fl_172_336 hn _ _))))))))
theorem flh_172_131 {n n' : Nat} (hn : n ≤ n') {H131 H131' : Int32 → Int32 → Int32 → amS → amQ} (hH131 : ∀ a0 a1 a2 S, FL (H131 a0 a1 a2 S) (H131' a0 a1 a2 S)) (l1 : Int32) (l5 : Int32) (l6 : Int32) (S : amS) : FL (h_172_131 n H131 l1 l5 l6 S) (h_172_131 n' H131' l1 l5 l6 S) := by
  unfold h_172_131
  exact fl_ck (fl_ite (fl_st (fun _ => fl_refl)) (fl_ck (fl_st (fun _ => hH131 _ _ _ _))))
theorem fl_172_131 : ∀ {n n' : Nat} (hn : n ≤ n') (l1 : Int32) (l5 : Int32) (l6 : Int32) (S : amS), FL (g_172_131 n l1 l5 l6 S) (g_172_131 n' l1 l5 l6 S)
  | 0, _, _, _, _, _, _ => fl_none
  | n + 1, 0, h, _, _, _, _ => absurd h (Nat.not_succ_le_zero n)
  | n + 1, n' + 1, h, l1, l5, l6, S => flh_172_131 (Nat.le_of_succ_le_succ h) (fun a0 a1 a2 S => fl_172_131 (Nat.le_of_succ_le_succ h) a0 a1 a2 S) l1 l5 l6 S
theorem fl_172_107 {n n' : Nat} (hn : n ≤ n') (l1 : Int32) (l2 : Int32) (l3 : Int32) (s0 : Int32) (S : amS) : FL (g_172_107 n l1 l2 l3 s0 S) (g_172_107 n' l1 l2 l3 s0 S) := by
  unfold g_172_107
  exact fl_ck (fl_ite (fl_172_164 hn _ _ _) (fl_ck (fl_st (fun _ => fl_172_131 hn _ _ _ _))))
theorem fl_172_54 {n n' : Nat} (hn : n ≤ n') (l1 : Int32) (l2 : Int32) (l3 : Int32) (S : amS) : FL (g_172_54 n l1 l2 l3 S) (g_172_54 n' l1 l2 l3 S) := by
  unfold g_172_54
  exact fl_st (fun _ => fl_ck (fl_st (fun _ => fl_st (fun _ => fl_ck (fl_ck (fl_st (fun _ => fl_ite (fl_ck (fl_172_107 hn _ _ _ _ _)) (fl_ck (fl_172_107 hn _ _ _ _ _)))))))))
theorem fl_172 {n n' : Nat} (hn : n ≤ n') (S : amS) : FL (g_172 n S) (g_172 n' S) := by
  unfold g_172
  exact fl_ite (fl_st (fun _ => fl_refl)) (fl_st (fun _ => fl_ck (fl_st (fun _ => fl_ck (fl_st (fun _ => fl_ck (fl_st (fun _ => fl_ite (fl_172_54 hn _ _ _ _) (fl_ite (fl_172_54 hn _ _ _ _) (fl_172_164 hn _ _ _))))))))))
noncomputable def G_172_336 (l2 : Int32) (S : amS) : amQ := az_ck l2 256 (if (S.1 36 l2.toNatClampNeg) = 10 then az_bV (G_170 l2 S) fun S2 => some (.inl none, S2) else az_bV (g_171 l2 S) fun S1 => some (.inl none, S1))
theorem ev_172_336 (l2 : Int32) (S : amS) : EV (fun m n => g_172_336 n l2 S) (G_172_336 l2 S) := by
  unfold g_172_336 G_172_336
  exact ev_ck (ev_ite (ev_bV (ev_170 _ _) (fun _ => ev_c)) (ev_bV (ev_c) (fun _ => ev_c)))
noncomputable def G_172_254 (s1 : Int32) (S : amS) : amQ := az_st (sI S 34 53 s1) fun S1 => some (.inl none, S1)
theorem ev_172_254 (s1 : Int32) (S : amS) : EV (fun m n => g_172_254 n s1 S) (G_172_254 s1 S) := by
  unfold g_172_254 G_172_254
  exact ev_st (fun _ => ev_c)
noncomputable def G_172_164 (l2 : Int32) (l3 : Int32) (S : amS) : amQ := az_st (sI S 34 49 ((S.1 34 49) - 1)) fun S1 => if l3 = 0 then (az_bV (g_166 l2 S1) fun S2 => some (.inl none, S2)) else if l3 = 1 then (if (lg_cmp (S1.2 34 54) 0) = 0 then az_ck l2 256 (G_172_254 (S1.1 40 l2.toNatClampNeg) S1) else az_ck l2 256 (az_ck (S1.1 39 l2.toNatClampNeg) 256 (G_172_254 (S1.1 41 (S1.1 39 l2.toNatClampNeg).toNatClampNeg) S1))) else if l3 = 2 then (az_bV (G_169 l2 S1) fun S3 => some (.inl none, S3)) else if l3 = 3 then (az_ck (4 * l2) 1024 (az_bI (G_163 (S1.1 43 (4 * l2).toNatClampNeg) S1) fun x4 S5 => az_ck x4 120000 (az_st (sJ S5 57 x4.toNatClampNeg (S5.2 34 54)) fun S6 => az_bI (G_167 l2 S6) fun x7 S8 => az_bV (g_166 x7 S8) fun S9 => some (.inl none, S9)))) else if l3 = 4 then (az_ck l2 256 (az_bI (G_163 (S1.1 38 l2.toNatClampNeg) S1) fun x10 S11 => az_ck x10 120000 (az_st (sJ S11 57 x10.toNatClampNeg (S11.2 34 54)) fun S12 => some (.inl none, S12)))) else if l3 = 5 then (G_172_336 l2 S1) else if l3 = 6 then (az_st (sI S1 34 32 ((S1.1 34 32) - 1)) fun S13 => some (.inl none, S13)) else G_172_336 l2 S1
theorem ev_172_164 (l2 : Int32) (l3 : Int32) (S : amS) : EV (fun m n => g_172_164 n l2 l3 S) (G_172_164 l2 l3 S) := by
  unfold g_172_164 G_172_164
  exact ev_st (fun _ => ev_ite (ev_bV (ev_c) (fun _ => ev_c)) (ev_ite (ev_ite (ev_ck (ev_172_254 _ _)) (ev_ck (ev_ck (ev_172_254 _ _)))) (ev_ite (ev_bV (ev_169 _ _) (fun _ => ev_c)) (ev_ite (ev_ck (ev_bI (ev_163 _ _) (fun _ _ => ev_ck (ev_st (fun _ => ev_bI (ev_167 _ _) (fun _ _ => ev_bV (ev_c) (fun _ => ev_c))))))) (ev_ite (ev_ck (ev_bI (ev_163 _ _) (fun _ _ => ev_ck (ev_st (fun _ => ev_c))))) (ev_ite (ev_172_336 _ _) (ev_ite (ev_st (fun _ => ev_c)) (ev_172_336 _ _))))))))
noncomputable def G_172_131 (l1 : Int32) (l5 : Int32) (l6 : Int32) (S : amS) : amQ := az_lim (fun m n => g_172_131 n l1 l5 l6 S)
theorem ev_172_131 (l1 : Int32) (l5 : Int32) (l6 : Int32) (S : amS) : EV (fun m n => g_172_131 n l1 l5 l6 S) (G_172_131 l1 l5 l6 S) := ev_lim (fun m m' n n' hm hn => fl_172_131 hn l1 l5 l6 S)
noncomputable def B_172_131 (H131 : Int32 → Int32 → Int32 → amS → amQ) (l1 : Int32) (l5 : Int32) (l6 : Int32) (S : amS) : amQ := az_ck l1 8000 (if (S.1 63 l1.toNatClampNeg) ≤ l6 then az_st (sI S 34 53 l5) fun S1 => some (.inl none, S1) else az_ck l5 256 (az_st (S.1 41 l5.toNatClampNeg) fun x2 => H131 l1 x2 (l6 + 1) S))
theorem evB_172_131 {N131 : Nat → Nat → Int32 → Int32 → Int32 → amS → amQ} {H131 : Int32 → Int32 → Int32 → amS → amQ} (hH131 : ∀ a0 a1 a2 S, EV (fun m n => N131 m n a0 a1 a2 S) (H131 a0 a1 a2 S)) (l1 : Int32) (l5 : Int32) (l6 : Int32) (S : amS) : EV (fun m n => h_172_131 n (N131 m n) l1 l5 l6 S) (B_172_131 H131 l1 l5 l6 S) := by
  unfold h_172_131 B_172_131
  exact ev_ck (ev_ite (ev_st (fun _ => ev_c)) (ev_ck (ev_st (fun _ => hH131 _ _ _ _))))
theorem G_172_131_eq (l1 : Int32) (l5 : Int32) (l6 : Int32) (S : amS) : G_172_131 l1 l5 l6 S = B_172_131 (G_172_131 ) l1 l5 l6 S := ev_uniq (f := fun m n => g_172_131 (n + 1) l1 l5 l6 S) (ev_shift (ev_172_131 l1 l5 l6 S)) (evB_172_131 (N131 := fun m n => g_172_131 n) (fun a0 a1 a2 S => ev_172_131 a0 a1 a2 S) l1 l5 l6 S)
noncomputable def G_172_107 (l1 : Int32) (l2 : Int32) (l3 : Int32) (s0 : Int32) (S : amS) : amQ := az_ck l1 8000 (if s0 ≤ (S.1 63 l1.toNatClampNeg) then G_172_164 l2 l3 S else az_ck l2 256 (az_st (S.1 39 l2.toNatClampNeg) fun x1 => G_172_131 l1 x1 0 S))
theorem ev_172_107 (l1 : Int32) (l2 : Int32) (l3 : Int32) (s0 : Int32) (S : amS) : EV (fun m n => g_172_107 n l1 l2 l3 s0 S) (G_172_107 l1 l2 l3 s0 S) := by
  unfold g_172_107 G_172_107
  exact ev_ck (ev_ite (ev_172_164 _ _ _) (ev_ck (ev_st (fun _ => ev_172_131 _ _ _ _))))
noncomputable def G_172_54 (l1 : Int32) (l2 : Int32) (l3 : Int32) (S : amS) : amQ := az_st (S.1 34 51) fun x2 => az_ck x2 16000 (az_st (sJ S 64 x2.toNatClampNeg (S.2 34 54)) fun S3 => az_st (sI S3 34 51 ((S3.1 34 51) + 1)) fun S4 => az_ck l1 8000 (az_ck l1 8000 (az_st (sI S4 63 l1.toNatClampNeg ((S4.1 63 l1.toNatClampNeg) + 1)) fun S5 => if l3 = 2 then az_ck l2 256 (G_172_107 l1 l2 l3 (S5.1 44 l2.toNatClampNeg) S5) else az_ck l2 256 (G_172_107 l1 l2 l3 (S5.1 42 l2.toNatClampNeg) S5))))
theorem ev_172_54 (l1 : Int32) (l2 : Int32) (l3 : Int32) (S : amS) : EV (fun m n => g_172_54 n l1 l2 l3 S) (G_172_54 l1 l2 l3 S) := by
  unfold g_172_54 G_172_54
  exact ev_st (fun _ => ev_ck (ev_st (fun _ => ev_st (fun _ => ev_ck (ev_ck (ev_st (fun _ => ev_ite (ev_ck (ev_172_107 _ _ _ _ _)) (ev_ck (ev_172_107 _ _ _ _ _)))))))))
noncomputable def G_172 (S : amS) : amQ := if (S.1 34 49) = 0 then az_st (sI S 34 29 1) fun S5 => some (.inl none, S5) else az_st ((S.1 34 49) - 1) fun x1 => az_ck x1 8000 (az_st (S.1 61 x1.toNatClampNeg) fun x2 => az_ck x1 8000 (az_st (sI S 34 52 (S.1 62 x1.toNatClampNeg)) fun S3 => az_ck x1 8000 (az_st (S3.1 60 x1.toNatClampNeg) fun x4 => if x4 = 2 then G_172_54 x1 x2 x4 S3 else if x4 = 5 then G_172_54 x1 x2 x4 S3 else G_172_164 x2 x4 S3)))
theorem ev_172 (S : amS) : EV (fun m n => g_172 n S) (G_172 S) := by
  unfold g_172 G_172
  exact ev_ite (ev_st (fun _ => ev_c)) (ev_st (fun _ => ev_ck (ev_st (fun _ => ev_ck (ev_st (fun _ => ev_ck (ev_st (fun _ => ev_ite (ev_172_54 _ _ _ _) (ev_ite (ev_172_54 _ _ _ _) (ev_172_164 _ _ _))))))))))
theorem fl_173_129 {n n' : Nat} (hn : n ≤ n') (s1 : Int32) (S : amS) : FL (g_173_129 n s1 S) (g_173_129 n' s1 S) := by
  unfold g_173_129
  exact fl_st (fun _ => fl_refl)
theorem fl_173_112 {n n' : Nat} (hn : n ≤ n') (S : amS) : FL (g_173_112 n S) (g_173_112 n' S) := by
  unfold g_173_112
  exact fl_ite (fl_173_129 hn _ _) (fl_173_129 hn _ _)
theorem fl_173_71 {n n' : Nat} (hn : n ≤ n') {H49 H49' : amS → amQ} (hH49 : ∀  S, FL (H49  S) (H49'  S)) (S : amS) : FL (g_173_71 n H49 S) (g_173_71 n' H49' S) := by
  unfold g_173_71
  exact fl_ite (fl_bV (fl_172 hn _) (fun _ => hH49 _)) (fl_st (fun _ => fl_st (fun _ => fl_bV (fl_168 hn _) (fun _ => hH49 _))))
theorem flh_173_49 {n n' : Nat} (hn : n ≤ n') {H49 H49' : amS → amQ} (hH49 : ∀  S, FL (H49  S) (H49'  S)) (S : amS) : FL (h_173_49 n H49 S) (h_173_49 n' H49' S) := by
  unfold h_173_49
  exact fl_ite (fl_ite (fl_173_71 hn hH49 _) (fl_ite (fl_173_112 hn _) (fl_173_71 hn hH49 _))) (fl_173_112 hn _)
theorem fl_173_49 : ∀ {n n' : Nat} (hn : n ≤ n') (S : amS), FL (g_173_49 n S) (g_173_49 n' S)
  | 0, _, _, _ => fl_none
  | n + 1, 0, h, _ => absurd h (Nat.not_succ_le_zero n)
  | n + 1, n' + 1, h, S => flh_173_49 (Nat.le_of_succ_le_succ h) (fun S => fl_173_49 (Nat.le_of_succ_le_succ h) S) S
theorem fl_173_36 {n n' : Nat} (hn : n ≤ n') (l1 : Int32) (s1 : Int32) (s2 : Int32) (S : amS) : FL (g_173_36 n l1 s1 s2 S) (g_173_36 n' l1 s1 s2 S) := by
  unfold g_173_36
  exact fl_bI (fl_refl) (fun _ _ => fl_ite (fl_st (fun _ => fl_173_49 hn _)) (fl_refl))
theorem fl_173_35 {n n' : Nat} (hn : n ≤ n') (l1 : Int32) (s1 : Int32) (S : amS) : FL (g_173_35 n l1 s1 S) (g_173_35 n' l1 s1 S) := by
  unfold g_173_35
  exact fl_173_36 hn _ _ _ _
theorem fl_173_16 {n n' : Nat} (hn : n ≤ n') (l1 : Int32) (s0 : Int32) (S : amS) : FL (g_173_16 n l1 s0 S) (g_173_16 n' l1 s0 S) := by
  unfold g_173_16
  exact fl_ite (fl_ite (fl_173_35 hn _ _ _) (fl_173_36 hn _ _ _ _)) (fl_173_35 hn _ _ _)
theorem fl_173 {n n' : Nat} (hn : n ≤ n') (l1 : Int32) (S : amS) : FL (g_173 n l1 S) (g_173 n' l1 S) := by
  unfold g_173
  exact fl_bI (fl_refl) (fun _ _ => fl_ite (fl_173_16 hn _ _ _) (fl_173_16 hn _ _ _))
noncomputable def G_173_129 (s1 : Int32) (S : amS) : amQ := az_st (sI S 34 32 s1) fun S1 => some (.inl (some (.int (S1.1 34 29))), S1)
theorem ev_173_129 (s1 : Int32) (S : amS) : EV (fun m n => g_173_129 n s1 S) (G_173_129 s1 S) := by
  unfold g_173_129 G_173_129
  exact ev_st (fun _ => ev_c)
noncomputable def G_173_112 (S : amS) : amQ := if (S.1 34 29) = 1 then G_173_129 0 S else G_173_129 (S.1 34 32) S
theorem ev_173_112 (S : amS) : EV (fun m n => g_173_112 n S) (G_173_112 S) := by
  unfold g_173_112 G_173_112
  exact ev_ite (ev_173_129 _ _) (ev_173_129 _ _)
noncomputable def G_173_71 (H49 : amS → amQ) (S : amS) : amQ := if (S.1 34 53) < 0 then az_bV (G_172 S) fun S1 => H49 S1 else az_st (sI S 34 33 ((S.1 34 33) - 1)) fun S2 => az_st (sI S2 34 30 ((S2.1 34 30) + 1)) fun S3 => az_bV (G_168 S3) fun S4 => H49 S4
theorem ev_173_71 {N49 : Nat → Nat → amS → amQ} {H49 : amS → amQ} (hH49 : ∀  S, EV (fun m n => N49 m n  S) (H49  S)) (S : amS) : EV (fun m n => g_173_71 n (N49 m n) S) (G_173_71 H49 S) := by
  unfold g_173_71 G_173_71
  exact ev_ite (ev_bV (ev_172 _) (fun _ => hH49 _)) (ev_st (fun _ => ev_st (fun _ => ev_bV (ev_168 _) (fun _ => hH49 _))))
noncomputable def G_173_49 (S : amS) : amQ := az_lim (fun m n => g_173_49 n S)
theorem ev_173_49 (S : amS) : EV (fun m n => g_173_49 n S) (G_173_49 S) := ev_lim (fun m m' n n' hm hn => fl_173_49 hn S)
noncomputable def B_173_49 (H49 : amS → amQ) (S : amS) : amQ := if (S.1 34 29) = 2 then if (S.1 34 53) < 0 then G_173_71 H49 S else if (S.1 34 33) ≤ 0 then G_173_112 S else G_173_71 H49 S else G_173_112 S
theorem evB_173_49 {N49 : Nat → Nat → amS → amQ} {H49 : amS → amQ} (hH49 : ∀  S, EV (fun m n => N49 m n  S) (H49  S)) (S : amS) : EV (fun m n => h_173_49 n (N49 m n) S) (B_173_49 H49 S) := by
  unfold h_173_49 B_173_49
  exact ev_ite (ev_ite (ev_173_71 hH49 _) (ev_ite (ev_173_112 _) (ev_173_71 hH49 _))) (ev_173_112 _)
theorem G_173_49_eq (S : amS) : G_173_49 S = B_173_49 (G_173_49 ) S := ev_uniq (f := fun m n => g_173_49 (n + 1) S) (ev_shift (ev_173_49 S)) (evB_173_49 (N49 := fun m n => g_173_49 n) (fun  S => ev_173_49  S) S)
noncomputable def G_173_36 (l1 : Int32) (s1 : Int32) (s2 : Int32) (S : amS) : amQ := az_bI (g_128 s1 s2 S) fun x1 S2 => if x1 = 0 then az_st (sI S2 34 33 l1) fun S3 => G_173_49 S3 else some (.inl (some (.int 0)), S2)
theorem ev_173_36 (l1 : Int32) (s1 : Int32) (s2 : Int32) (S : amS) : EV (fun m n => g_173_36 n l1 s1 s2 S) (G_173_36 l1 s1 s2 S) := by
  unfold g_173_36 G_173_36
  exact ev_bI (ev_c) (fun _ _ => ev_ite (ev_st (fun _ => ev_173_49 _)) (ev_c))
noncomputable def G_173_35 (l1 : Int32) (s1 : Int32) (S : amS) : amQ := G_173_36 l1 s1 0 S
theorem ev_173_35 (l1 : Int32) (s1 : Int32) (S : amS) : EV (fun m n => g_173_35 n l1 s1 S) (G_173_35 l1 s1 S) := by
  unfold g_173_35 G_173_35
  exact ev_173_36 _ _ _ _
noncomputable def G_173_16 (l1 : Int32) (s0 : Int32) (S : amS) : amQ := if s0 = 0 then if (S.1 34 29) = 2 then G_173_35 l1 s0 S else G_173_36 l1 s0 1 S else G_173_35 l1 s0 S
theorem ev_173_16 (l1 : Int32) (s0 : Int32) (S : amS) : EV (fun m n => g_173_16 n l1 s0 S) (G_173_16 l1 s0 S) := by
  unfold g_173_16 G_173_16
  exact ev_ite (ev_ite (ev_173_35 _ _ _) (ev_173_36 _ _ _ _)) (ev_173_35 _ _ _)
noncomputable def G_173 (l1 : Int32) (S : amS) : amQ := az_bI (g_129 l1 1 2000 S) fun x1 S2 => if x1 = 0 then G_173_16 l1 1 S2 else G_173_16 l1 0 S2
theorem ev_173 (l1 : Int32) (S : amS) : EV (fun m n => g_173 n l1 S) (G_173 l1 S) := by
  unfold g_173 G_173
  exact ev_bI (ev_c) (fun _ _ => ev_ite (ev_173_16 _ _ _) (ev_173_16 _ _ _))
theorem fl_178_76 {n n' : Nat} (hn : n ≤ n') {H27 H27' : Int32 → Int64 → Int32 → amS → amQ} (hH27 : ∀ a0 a1 a2 S, FL (H27 a0 a1 a2 S) (H27' a0 a1 a2 S)) (l1 : Int32) (l5 : Int32) (s0 : Int64) (S : amS) : FL (g_178_76 n H27 l1 l5 s0 S) (g_178_76 n' H27' l1 l5 s0 S) := by
  unfold g_178_76
  exact hH27 _ _ _ _
theorem flh_178_27 {n n' : Nat} (hn : n ≤ n') {H27 H27' : Int32 → Int64 → Int32 → amS → amQ} (hH27 : ∀ a0 a1 a2 S, FL (H27 a0 a1 a2 S) (H27' a0 a1 a2 S)) (l1 : Int32) (l3 : Int64) (l5 : Int32) (S : amS) : FL (h_178_27 n H27 l1 l3 l5 S) (h_178_27 n' H27' l1 l3 l5 S) := by
  unfold h_178_27
  exact fl_ite (fl_refl) (fl_ite (fl_refl) (fl_bI (fl_refl) (fun _ _ => fl_ite (fl_ite (fl_ck (fl_178_76 hn hH27 _ _ _ _)) (fl_ck (fl_178_76 hn hH27 _ _ _ _))) (fl_refl))))
theorem fl_178_27 : ∀ {n n' : Nat} (hn : n ≤ n') (l1 : Int32) (l3 : Int64) (l5 : Int32) (S : amS), FL (g_178_27 n l1 l3 l5 S) (g_178_27 n' l1 l3 l5 S)
  | 0, _, _, _, _, _, _ => fl_none
  | n + 1, 0, h, _, _, _, _ => absurd h (Nat.not_succ_le_zero n)
  | n + 1, n' + 1, h, l1, l3, l5, S => flh_178_27 (Nat.le_of_succ_le_succ h) (fun a0 a1 a2 S => fl_178_27 (Nat.le_of_succ_le_succ h) a0 a1 a2 S) l1 l3 l5 S
theorem flh_178_3 {n n' : Nat} (hn : n ≤ n') {H3 H3' : Int32 → Int32 → amS → amQ} (hH3 : ∀ a0 a1 S, FL (H3 a0 a1 S) (H3' a0 a1 S)) (l1 : Int32) (l2 : Int32) (S : amS) : FL (h_178_3 n H3 l1 l2 S) (h_178_3 n' H3' l1 l2 S) := by
  unfold h_178_3
  exact fl_ite (hH3 _ _ _) (fl_st (fun _ => fl_st (fun _ => fl_178_27 hn _ _ _ _)))
theorem fl_178_3 : ∀ {n n' : Nat} (hn : n ≤ n') (l1 : Int32) (l2 : Int32) (S : amS), FL (g_178_3 n l1 l2 S) (g_178_3 n' l1 l2 S)
  | 0, _, _, _, _, _ => fl_none
  | n + 1, 0, h, _, _, _ => absurd h (Nat.not_succ_le_zero n)
  | n + 1, n' + 1, h, l1, l2, S => flh_178_3 (Nat.le_of_succ_le_succ h) (fun a0 a1 S => fl_178_3 (Nat.le_of_succ_le_succ h) a0 a1 S) l1 l2 S
theorem fl_178 {n n' : Nat} (hn : n ≤ n') (l1 : Int32) (S : amS) : FL (g_178 n l1 S) (g_178 n' l1 S) := by
  unfold g_178
  exact fl_178_3 hn _ _ _
noncomputable def G_178_76 (H27 : Int32 → Int64 → Int32 → amS → amQ) (l1 : Int32) (l5 : Int32) (s0 : Int64) (S : amS) : amQ := H27 l1 s0 (l5 + (-1)) S
theorem ev_178_76 {N27 : Nat → Nat → Int32 → Int64 → Int32 → amS → amQ} {H27 : Int32 → Int64 → Int32 → amS → amQ} (hH27 : ∀ a0 a1 a2 S, EV (fun m n => N27 m n a0 a1 a2 S) (H27 a0 a1 a2 S)) (l1 : Int32) (l5 : Int32) (s0 : Int64) (S : amS) : EV (fun m n => g_178_76 n (N27 m n) l1 l5 s0 S) (G_178_76 H27 l1 l5 s0 S) := by
  unfold g_178_76 G_178_76
  exact hH27 _ _ _ _
noncomputable def G_178_27 (l1 : Int32) (l3 : Int64) (l5 : Int32) (S : amS) : amQ := az_lim (fun m n => g_178_27 n l1 l3 l5 S)
theorem ev_178_27 (l1 : Int32) (l3 : Int64) (l5 : Int32) (S : amS) : EV (fun m n => g_178_27 n l1 l3 l5 S) (G_178_27 l1 l3 l5 S) := ev_lim (fun m m' n n' hm hn => fl_178_27 hn l1 l3 l5 S)
noncomputable def B_178_27 (H27 : Int32 → Int64 → Int32 → amS → amQ) (l1 : Int32) (l3 : Int64) (l5 : Int32) (S : amS) : amQ := if l5 < 0 then some (.inl (some (.long l3)), S) else if (lg_cmp l3 0) < 0 then some (.inl (some (.long ((-1)))), S) else az_bI (g_157 l3 S) fun x1 S2 => if x1 = 2 then if ((l1 >>> (l5 &&& 31)) &&& 1) = 0 then az_ck (Int64.toInt32 l3) 2000 (G_178_76 H27 l1 l5 (S2.2 52 (Int64.toInt32 l3).toNatClampNeg) S2) else az_ck (Int64.toInt32 l3) 2000 (G_178_76 H27 l1 l5 (S2.2 53 (Int64.toInt32 l3).toNatClampNeg) S2) else some (.inl (some (.long ((-1)))), S2)
theorem evB_178_27 {N27 : Nat → Nat → Int32 → Int64 → Int32 → amS → amQ} {H27 : Int32 → Int64 → Int32 → amS → amQ} (hH27 : ∀ a0 a1 a2 S, EV (fun m n => N27 m n a0 a1 a2 S) (H27 a0 a1 a2 S)) (l1 : Int32) (l3 : Int64) (l5 : Int32) (S : amS) : EV (fun m n => h_178_27 n (N27 m n) l1 l3 l5 S) (B_178_27 H27 l1 l3 l5 S) := by
  unfold h_178_27 B_178_27
  exact ev_ite (ev_c) (ev_ite (ev_c) (ev_bI (ev_c) (fun _ _ => ev_ite (ev_ite (ev_ck (ev_178_76 hH27 _ _ _ _)) (ev_ck (ev_178_76 hH27 _ _ _ _))) (ev_c))))
theorem G_178_27_eq (l1 : Int32) (l3 : Int64) (l5 : Int32) (S : amS) : G_178_27 l1 l3 l5 S = B_178_27 (G_178_27 ) l1 l3 l5 S := ev_uniq (f := fun m n => g_178_27 (n + 1) l1 l3 l5 S) (ev_shift (ev_178_27 l1 l3 l5 S)) (evB_178_27 (N27 := fun m n => g_178_27 n) (fun a0 a1 a2 S => ev_178_27 a0 a1 a2 S) l1 l3 l5 S)
noncomputable def G_178_3 (l1 : Int32) (l2 : Int32) (S : amS) : amQ := az_lim (fun m n => g_178_3 n l1 l2 S)
theorem ev_178_3 (l1 : Int32) (l2 : Int32) (S : amS) : EV (fun m n => g_178_3 n l1 l2 S) (G_178_3 l1 l2 S) := ev_lim (fun m m' n n' hm hn => fl_178_3 hn l1 l2 S)
noncomputable def B_178_3 (H3 : Int32 → Int32 → amS → amQ) (l1 : Int32) (l2 : Int32) (S : amS) : amQ := if ((l1 >>> (l2 &&& 31)) &&& 1) = 0 then H3 l1 (l2 + (-1)) S else az_st (S.2 34 54) fun x1 => az_st (l2 - 1) fun x2 => G_178_27 l1 x1 x2 S
theorem evB_178_3 {N3 : Nat → Nat → Int32 → Int32 → amS → amQ} {H3 : Int32 → Int32 → amS → amQ} (hH3 : ∀ a0 a1 S, EV (fun m n => N3 m n a0 a1 S) (H3 a0 a1 S)) (l1 : Int32) (l2 : Int32) (S : amS) : EV (fun m n => h_178_3 n (N3 m n) l1 l2 S) (B_178_3 H3 l1 l2 S) := by
  unfold h_178_3 B_178_3
  exact ev_ite (hH3 _ _ _) (ev_st (fun _ => ev_st (fun _ => ev_178_27 _ _ _ _)))
theorem G_178_3_eq (l1 : Int32) (l2 : Int32) (S : amS) : G_178_3 l1 l2 S = B_178_3 (G_178_3 ) l1 l2 S := ev_uniq (f := fun m n => g_178_3 (n + 1) l1 l2 S) (ev_shift (ev_178_3 l1 l2 S)) (evB_178_3 (N3 := fun m n => g_178_3 n) (fun a0 a1 S => ev_178_3 a0 a1 S) l1 l2 S)
noncomputable def G_178 (l1 : Int32) (S : amS) : amQ := G_178_3 l1 30 S
theorem ev_178 (l1 : Int32) (S : amS) : EV (fun m n => g_178 n l1 S) (G_178 l1 S) := by
  unfold g_178 G_178
  exact ev_178_3 _ _ _
theorem fl_179_30 {n n' : Nat} (hn : n ≤ n') (l1 : Int32) (s1 : Int32) (s2 : Int32) (S : amS) : FL (g_179_30 n l1 s1 s2 S) (g_179_30 n' l1 s1 s2 S) := by
  unfold g_179_30
  exact fl_bI (fl_refl) (fun _ _ => fl_ite (fl_bJ (fl_178 hn _ _) (fun _ _ => fl_ite (fl_bI (fl_refl) (fun _ _ => fl_refl)) (fl_refl))) (fl_refl))
theorem fl_179_29 {n n' : Nat} (hn : n ≤ n') (l1 : Int32) (s1 : Int32) (S : amS) : FL (g_179_29 n l1 s1 S) (g_179_29 n' l1 s1 S) := by
  unfold g_179_29
  exact fl_179_30 hn _ _ _ _
theorem fl_179_10 {n n' : Nat} (hn : n ≤ n') (l1 : Int32) (s0 : Int32) (S : amS) : FL (g_179_10 n l1 s0 S) (g_179_10 n' l1 s0 S) := by
  unfold g_179_10
  exact fl_ite (fl_ite (fl_179_29 hn _ _ _) (fl_179_30 hn _ _ _ _)) (fl_179_29 hn _ _ _)
theorem fl_179 {n n' : Nat} (hn : n ≤ n') (l1 : Int32) (S : amS) : FL (g_179 n l1 S) (g_179 n' l1 S) := by
  unfold g_179
  exact fl_ite (fl_179_10 hn _ _ _) (fl_179_10 hn _ _ _)
noncomputable def G_179_30 (l1 : Int32) (s1 : Int32) (s2 : Int32) (S : amS) : amQ := az_bI (g_128 s1 s2 S) fun x1 S2 => if x1 = 0 then az_bJ (G_178 l1 S2) fun x3 S4 => if 0 ≤ (lg_cmp x3 0) then az_bI (g_157 x3 S4) fun x5 S6 => some (.inl (some (.int x5)), S6) else some (.inl (some (.int ((-1)))), S4) else some (.inl (some (.int 0)), S2)
theorem ev_179_30 (l1 : Int32) (s1 : Int32) (s2 : Int32) (S : amS) : EV (fun m n => g_179_30 n l1 s1 s2 S) (G_179_30 l1 s1 s2 S) := by
  unfold g_179_30 G_179_30
  exact ev_bI (ev_c) (fun _ _ => ev_ite (ev_bJ (ev_178 _ _) (fun _ _ => ev_ite (ev_bI (ev_c) (fun _ _ => ev_c)) (ev_c))) (ev_c))
noncomputable def G_179_29 (l1 : Int32) (s1 : Int32) (S : amS) : amQ := G_179_30 l1 s1 0 S
theorem ev_179_29 (l1 : Int32) (s1 : Int32) (S : amS) : EV (fun m n => g_179_29 n l1 s1 S) (G_179_29 l1 s1 S) := by
  unfold g_179_29 G_179_29
  exact ev_179_30 _ _ _ _
noncomputable def G_179_10 (l1 : Int32) (s0 : Int32) (S : amS) : amQ := if s0 = 0 then if (S.1 34 29) = 1 then G_179_29 l1 s0 S else G_179_30 l1 s0 1 S else G_179_29 l1 s0 S
theorem ev_179_10 (l1 : Int32) (s0 : Int32) (S : amS) : EV (fun m n => g_179_10 n l1 s0 S) (G_179_10 l1 s0 S) := by
  unfold g_179_10 G_179_10
  exact ev_ite (ev_ite (ev_179_29 _ _ _) (ev_179_30 _ _ _ _)) (ev_179_29 _ _ _)
noncomputable def G_179 (l1 : Int32) (S : amS) : amQ := if 1 ≤ l1 then G_179_10 l1 0 S else G_179_10 l1 1 S
theorem ev_179 (l1 : Int32) (S : amS) : EV (fun m n => g_179 n l1 S) (G_179 l1 S) := by
  unfold g_179 G_179
  exact ev_ite (ev_179_10 _ _ _) (ev_179_10 _ _ _)
theorem fl_180_30 {n n' : Nat} (hn : n ≤ n') (l1 : Int32) (s1 : Int32) (s2 : Int32) (S : amS) : FL (g_180_30 n l1 s1 s2 S) (g_180_30 n' l1 s1 s2 S) := by
  unfold g_180_30
  exact fl_bI (fl_refl) (fun _ _ => fl_ite (fl_bJ (fl_178 hn _ _) (fun _ _ => fl_ite (fl_refl) (fl_bI (fl_refl) (fun _ _ => fl_ite (fl_refl) (fl_refl))))) (fl_refl))
theorem fl_180_29 {n n' : Nat} (hn : n ≤ n') (l1 : Int32) (s1 : Int32) (S : amS) : FL (g_180_29 n l1 s1 S) (g_180_29 n' l1 s1 S) := by
  unfold g_180_29
  exact fl_180_30 hn _ _ _ _
theorem fl_180_10 {n n' : Nat} (hn : n ≤ n') (l1 : Int32) (s0 : Int32) (S : amS) : FL (g_180_10 n l1 s0 S) (g_180_10 n' l1 s0 S) := by
  unfold g_180_10
  exact fl_ite (fl_ite (fl_180_29 hn _ _ _) (fl_180_30 hn _ _ _ _)) (fl_180_29 hn _ _ _)
theorem fl_180 {n n' : Nat} (hn : n ≤ n') (l1 : Int32) (S : amS) : FL (g_180 n l1 S) (g_180 n' l1 S) := by
  unfold g_180
  exact fl_ite (fl_180_10 hn _ _ _) (fl_180_10 hn _ _ _)
noncomputable def G_180_30 (l1 : Int32) (s1 : Int32) (s2 : Int32) (S : amS) : amQ := az_bI (g_128 s1 s2 S) fun x1 S2 => if x1 = 0 then az_bJ (G_178 l1 S2) fun x3 S4 => if (lg_cmp x3 0) < 0 then some (.inl (some (.int 0)), S4) else az_bI (g_157 x3 S4) fun x5 S6 => if x5 = 0 then some (.inl (some (.int (Int64.toInt32 x3))), S6) else some (.inl (some (.int 0)), S6) else some (.inl (some (.int 0)), S2)
theorem ev_180_30 (l1 : Int32) (s1 : Int32) (s2 : Int32) (S : amS) : EV (fun m n => g_180_30 n l1 s1 s2 S) (G_180_30 l1 s1 s2 S) := by
  unfold g_180_30 G_180_30
  exact ev_bI (ev_c) (fun _ _ => ev_ite (ev_bJ (ev_178 _ _) (fun _ _ => ev_ite (ev_c) (ev_bI (ev_c) (fun _ _ => ev_ite (ev_c) (ev_c))))) (ev_c))
noncomputable def G_180_29 (l1 : Int32) (s1 : Int32) (S : amS) : amQ := G_180_30 l1 s1 0 S
theorem ev_180_29 (l1 : Int32) (s1 : Int32) (S : amS) : EV (fun m n => g_180_29 n l1 s1 S) (G_180_29 l1 s1 S) := by
  unfold g_180_29 G_180_29
  exact ev_180_30 _ _ _ _
noncomputable def G_180_10 (l1 : Int32) (s0 : Int32) (S : amS) : amQ := if s0 = 0 then if (S.1 34 29) = 1 then G_180_29 l1 s0 S else G_180_30 l1 s0 1 S else G_180_29 l1 s0 S
theorem ev_180_10 (l1 : Int32) (s0 : Int32) (S : amS) : EV (fun m n => g_180_10 n l1 s0 S) (G_180_10 l1 s0 S) := by
  unfold g_180_10 G_180_10
  exact ev_ite (ev_ite (ev_180_29 _ _ _) (ev_180_30 _ _ _ _)) (ev_180_29 _ _ _)
noncomputable def G_180 (l1 : Int32) (S : amS) : amQ := if 1 ≤ l1 then G_180_10 l1 0 S else G_180_10 l1 1 S
theorem ev_180 (l1 : Int32) (S : amS) : EV (fun m n => g_180 n l1 S) (G_180 l1 S) := by
  unfold g_180 G_180
  exact ev_ite (ev_180_10 _ _ _) (ev_180_10 _ _ _)
