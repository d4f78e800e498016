theorem fl_6_64 {n n' : Nat} (hn : n ≤ n') {H4 H4' : Int32 → Int32 → amS → amQ} (hH4 : ∀ a0 a1 S, FL (H4 a0 a1 S) (H4' a0 a1 S)) (l2 : Int32) (l3 : Int32) (S : amS) : FL (g_6_64 n H4 l2 l3 S) (g_6_64 n' H4' l2 l3 S) := by
  unfold g_6_64
  exact hH4 _ _ _
theorem flh_6_4 {n n' : Nat} (hn : n ≤ n') {H4 H4' : Int32 → Int32 → amS → amQ} (hH4 : ∀ a0 a1 S, FL (H4 a0 a1 S) (H4' a0 a1 S)) (l2 : Int32) (l3 : Int32) (S : amS) : FL (h_6_4 n H4 l2 l3 S) (h_6_4 n' H4' l2 l3 S) := by
  unfold h_6_4
  exact fl_ite (fl_refl) (fl_bI (fl_refl) (fun _ _ => fl_ite (fl_st (fun _ => fl_6_64 hn hH4 _ _ _)) (fl_ite (fl_6_64 hn hH4 _ _ _) (fl_ite (fl_refl) (fl_refl)))))
theorem fl_6_4 : ∀ {n n' : Nat} (hn : n ≤ n') (l2 : Int32) (l3 : Int32) (S : amS), FL (g_6_4 n l2 l3 S) (g_6_4 n' l2 l3 S)
  | 0, _, _, _, _, _ => fl_none
  | n + 1, 0, h, _, _, _ => absurd h (Nat.not_succ_le_zero n)
  | n + 1, n' + 1, h, l2, l3, S => flh_6_4 (Nat.le_of_succ_le_succ h) (fun a0 a1 S => fl_6_4 (Nat.le_of_succ_le_succ h) a0 a1 S) l2 l3 S
theorem fl_6 {n n' : Nat} (hn : n ≤ n') (l1 : Int32) (S : amS) : FL (g_6 n l1 S) (g_6 n' l1 S) := by
  unfold g_6
  exact fl_6_4 hn _ _ _
noncomputable def G_6_64 (H4 : Int32 → Int32 → amS → amQ) (l2 : Int32) (l3 : Int32) (S : amS) : amQ := H4 l2 (l3 + 1) S
theorem ev_6_64 {N4 : Nat → Nat → Int32 → Int32 → amS → amQ} {H4 : Int32 → Int32 → amS → amQ} (hH4 : ∀ a0 a1 S, EV (fun m n => N4 m n a0 a1 S) (H4 a0 a1 S)) (l2 : Int32) (l3 : Int32) (S : amS) : EV (fun m n => g_6_64 n (N4 m n) l2 l3 S) (G_6_64 H4 l2 l3 S) := by
  unfold g_6_64 G_6_64
  exact hH4 _ _ _
noncomputable def G_6_4 (l2 : Int32) (l3 : Int32) (S : amS) : amQ := az_lim (fun m n => g_6_4 n l2 l3 S)
theorem ev_6_4 (l2 : Int32) (l3 : Int32) (S : amS) : EV (fun m n => g_6_4 n l2 l3 S) (G_6_4 l2 l3 S) := ev_lim (fun m m' n n' hm hn => fl_6_4 hn l2 l3 S)
noncomputable def B_6_4 (H4 : Int32 → Int32 → amS → amQ) (l2 : Int32) (l3 : Int32) (S : amS) : amQ := if (S.1 1 3) ≤ l3 then some (.inl (some (.int 0)), S) else az_bI (g_4 l2 S) fun x1 S2 => if x1 = 9 then az_st (az_rg 502 (S2.1 3) l2) fun x3 => G_6_64 H4 x3 l3 S2 else if x1 = 13 then G_6_64 H4 (l2 + 1) l3 S2 else if x1 = 16 then some (.inl (some (.int 1)), S2) else some (.inl (some (.int 0)), S2)
theorem evB_6_4 {N4 : Nat → Nat → Int32 → Int32 → amS → amQ} {H4 : Int32 → Int32 → amS → amQ} (hH4 : ∀ a0 a1 S, EV (fun m n => N4 m n a0 a1 S) (H4 a0 a1 S)) (l2 : Int32) (l3 : Int32) (S : amS) : EV (fun m n => h_6_4 n (N4 m n) l2 l3 S) (B_6_4 H4 l2 l3 S) := by
  unfold h_6_4 B_6_4
  exact ev_ite (ev_c) (ev_bI (ev_c) (fun _ _ => ev_ite (ev_st (fun _ => ev_6_64 hH4 _ _ _)) (ev_ite (ev_6_64 hH4 _ _ _) (ev_ite (ev_c) (ev_c)))))
theorem G_6_4_eq (l2 : Int32) (l3 : Int32) (S : amS) : G_6_4 l2 l3 S = B_6_4 (G_6_4 ) l2 l3 S := ev_uniq (f := fun m n => g_6_4 (n + 1) l2 l3 S) (ev_shift (ev_6_4 l2 l3 S)) (evB_6_4 (N4 := fun m n => g_6_4 n) (fun a0 a1 S => ev_6_4 a0 a1 S) l2 l3 S)
noncomputable def G_6 (l1 : Int32) (S : amS) : amQ := G_6_4 l1 0 S
theorem ev_6 (l1 : Int32) (S : amS) : EV (fun m n => g_6 n l1 S) (G_6 l1 S) := by
  unfold g_6 G_6
  exact ev_6_4 _ _ _
theorem fl_5_40 {n n' : Nat} (hn : n ≤ n') {H2 H2' : Int32 → amS → amQ} (hH2 : ∀ a0 S, FL (H2 a0 S) (H2' a0 S)) (l1 : Int32) (S : amS) : FL (g_5_40 n H2 l1 S) (g_5_40 n' H2' l1 S) := by
  unfold g_5_40
  exact hH2 _ _
theorem flh_5_2 {n n' : Nat} (hn : n ≤ n') {H2 H2' : Int32 → amS → amQ} (hH2 : ∀ a0 S, FL (H2 a0 S) (H2' a0 S)) (l1 : Int32) (S : amS) : FL (h_5_2 n H2 l1 S) (h_5_2 n' H2' l1 S) := by
  unfold h_5_2
  exact fl_ite (fl_refl) (fl_bI (fl_refl) (fun _ _ => fl_ite (fl_bI (fl_6 hn _ _) (fun _ _ => fl_ite (fl_5_40 hn hH2 _ _) (fl_st (fun _ => fl_5_40 hn hH2 _ _)))) (fl_5_40 hn hH2 _ _)))
theorem fl_5_2 : ∀ {n n' : Nat} (hn : n ≤ n') (l1 : Int32) (S : amS), FL (g_5_2 n l1 S) (g_5_2 n' l1 S)
  | 0, _, _, _, _ => fl_none
  | n + 1, 0, h, _, _ => absurd h (Nat.not_succ_le_zero n)
  | n + 1, n' + 1, h, l1, S => flh_5_2 (Nat.le_of_succ_le_succ h) (fun a0 S => fl_5_2 (Nat.le_of_succ_le_succ h) a0 S) l1 S
theorem fl_5 {n n' : Nat} (hn : n ≤ n') (S : amS) : FL (g_5 n S) (g_5 n' S) := by
  unfold g_5
  exact fl_5_2 hn _ _
noncomputable def G_5_40 (H2 : Int32 → amS → amQ) (l1 : Int32) (S : amS) : amQ := H2 (l1 + 1) S
theorem ev_5_40 {N2 : Nat → Nat → Int32 → amS → amQ} {H2 : Int32 → amS → amQ} (hH2 : ∀ a0 S, EV (fun m n => N2 m n a0 S) (H2 a0 S)) (l1 : Int32) (S : amS) : EV (fun m n => g_5_40 n (N2 m n) l1 S) (G_5_40 H2 l1 S) := by
  unfold g_5_40 G_5_40
  exact hH2 _ _
noncomputable def G_5_2 (l1 : Int32) (S : amS) : amQ := az_lim (fun m n => g_5_2 n l1 S)
theorem ev_5_2 (l1 : Int32) (S : amS) : EV (fun m n => g_5_2 n l1 S) (G_5_2 l1 S) := ev_lim (fun m m' n n' hm hn => fl_5_2 hn l1 S)
noncomputable def B_5_2 (H2 : Int32 → amS → amQ) (l1 : Int32) (S : amS) : amQ := if (S.1 1 3) ≤ l1 then some (.inl none, S) else az_bI (g_4 l1 S) fun x1 S2 => if x1 = 14 then az_bI (G_6 (l1 + 1) S2) fun x3 S4 => if x3 = 0 then G_5_40 H2 l1 S4 else az_st (sR S4 2 502 l1 15) fun S5 => G_5_40 H2 l1 S5 else G_5_40 H2 l1 S2
theorem evB_5_2 {N2 : Nat → Nat → Int32 → amS → amQ} {H2 : Int32 → amS → amQ} (hH2 : ∀ a0 S, EV (fun m n => N2 m n a0 S) (H2 a0 S)) (l1 : Int32) (S : amS) : EV (fun m n => h_5_2 n (N2 m n) l1 S) (B_5_2 H2 l1 S) := by
  unfold h_5_2 B_5_2
  exact ev_ite (ev_c) (ev_bI (ev_c) (fun _ _ => ev_ite (ev_bI (ev_6 _ _) (fun _ _ => ev_ite (ev_5_40 hH2 _ _) (ev_st (fun _ => ev_5_40 hH2 _ _)))) (ev_5_40 hH2 _ _)))
theorem G_5_2_eq (l1 : Int32) (S : amS) : G_5_2 l1 S = B_5_2 (G_5_2 ) l1 S := ev_uniq (f := fun m n => g_5_2 (n + 1) l1 S) (ev_shift (ev_5_2 l1 S)) (evB_5_2 (N2 := fun m n => g_5_2 n) (fun a0 S => ev_5_2 a0 S) l1 S)
noncomputable def G_5 (S : amS) : amQ := G_5_2 0 S
theorem ev_5 (S : amS) : EV (fun m n => g_5 n S) (G_5 S) := by
  unfold g_5 G_5
  exact ev_5_2 _ _
theorem flh_12_19 {n n' : Nat} (hn : n ≤ n') {H19 H19' : Int32 → Int32 → Int32 → Int32 → Int32 → Int32 → amS → amQ} (hH19 : ∀ a0 a1 a2 a3 a4 a5 S, FL (H19 a0 a1 a2 a3 a4 a5 S) (H19' a0 a1 a2 a3 a4 a5 S)) (l1 : Int32) (l2 : Int32) (l3 : Int32) (l4 : Int32) (l5 : Int32) (l6 : Int32) (S : amS) : FL (h_12_19 n H19 l1 l2 l3 l4 l5 l6 S) (h_12_19 n' H19' l1 l2 l3 l4 l5 l6 S) := by
  unfold h_12_19
  exact fl_ite (fl_st (fun _ => fl_st (fun _ => fl_st (fun _ => fl_refl)))) (fl_ite (fl_refl) (hH19 _ _ _ _ _ _ _))
theorem fl_12_19 : ∀ {n n' : Nat} (hn : n ≤ n') (l1 : Int32) (l2 : Int32) (l3 : Int32) (l4 : Int32) (l5 : Int32) (l6 : Int32) (S : amS), FL (g_12_19 n l1 l2 l3 l4 l5 l6 S) (g_12_19 n' l1 l2 l3 l4 l5 l6 S)
  | 0, _, _, _, _, _, _, _, _, _ => fl_none
  | n + 1, 0, h, _, _, _, _, _, _, _ => absurd h (Nat.not_succ_le_zero n)
  | n + 1, n' + 1, h, l1, l2, l3, l4, l5, l6, S => flh_12_19 (Nat.le_of_succ_le_succ h) (fun a0 a1 a2 a3 a4 a5 S => fl_12_19 (Nat.le_of_succ_le_succ h) a0 a1 a2 a3 a4 a5 S) l1 l2 l3 l4 l5 l6 S
theorem fl_12 {n n' : Nat} (hn : n ≤ n') (l1 : Int32) (l2 : Int32) (l3 : Int32) (S : amS) : FL (g_12 n l1 l2 l3 S) (g_12 n' l1 l2 l3 S) := by
  unfold g_12
  exact fl_st (fun _ => fl_st (fun _ => fl_12_19 hn _ _ _ _ _ _ _))
noncomputable def G_12_19 (l1 : Int32) (l2 : Int32) (l3 : Int32) (l4 : Int32) (l5 : Int32) (l6 : Int32) (S : amS) : amQ := az_lim (fun m n => g_12_19 n l1 l2 l3 l4 l5 l6 S)
theorem ev_12_19 (l1 : Int32) (l2 : Int32) (l3 : Int32) (l4 : Int32) (l5 : Int32) (l6 : Int32) (S : amS) : EV (fun m n => g_12_19 n l1 l2 l3 l4 l5 l6 S) (G_12_19 l1 l2 l3 l4 l5 l6 S) := ev_lim (fun m m' n n' hm hn => fl_12_19 hn l1 l2 l3 l4 l5 l6 S)
noncomputable def B_12_19 (H19 : Int32 → Int32 → Int32 → Int32 → Int32 → Int32 → amS → amQ) (l1 : Int32) (l2 : Int32) (l3 : Int32) (l4 : Int32) (l5 : Int32) (l6 : Int32) (S : amS) : amQ := if l5 ≤ l6 then az_st (sR S 18 728 (l4 + l5) l2) fun S1 => az_st (sR S1 19 728 (l4 + l5) l3) fun S2 => az_st (sR S2 17 28 l1 (l5 + 1)) fun S3 => some (.inl (some (.int l5)), S3) else if (az_rg 728 (S.1 18) (l4 + l6)) = l2 then some (.inl (some (.int l6)), S) else H19 l1 l2 l3 l4 l5 (l6 + 1) S
theorem evB_12_19 {N19 : Nat → Nat → Int32 → Int32 → Int32 → Int32 → Int32 → Int32 → amS → amQ} {H19 : Int32 → Int32 → Int32 → Int32 → Int32 → Int32 → amS → amQ} (hH19 : ∀ a0 a1 a2 a3 a4 a5 S, EV (fun m n => N19 m n a0 a1 a2 a3 a4 a5 S) (H19 a0 a1 a2 a3 a4 a5 S)) (l1 : Int32) (l2 : Int32) (l3 : Int32) (l4 : Int32) (l5 : Int32) (l6 : Int32) (S : amS) : EV (fun m n => h_12_19 n (N19 m n) l1 l2 l3 l4 l5 l6 S) (B_12_19 H19 l1 l2 l3 l4 l5 l6 S) := by
  unfold h_12_19 B_12_19
  exact ev_ite (ev_st (fun _ => ev_st (fun _ => ev_st (fun _ => ev_c)))) (ev_ite (ev_c) (hH19 _ _ _ _ _ _ _))
theorem G_12_19_eq (l1 : Int32) (l2 : Int32) (l3 : Int32) (l4 : Int32) (l5 : Int32) (l6 : Int32) (S : amS) : G_12_19 l1 l2 l3 l4 l5 l6 S = B_12_19 (G_12_19 ) l1 l2 l3 l4 l5 l6 S := ev_uniq (f := fun m n => g_12_19 (n + 1) l1 l2 l3 l4 l5 l6 S) (ev_shift (ev_12_19 l1 l2 l3 l4 l5 l6 S)) (evB_12_19 (N19 := fun m n => g_12_19 n) (fun a0 a1 a2 a3 a4 a5 S => ev_12_19 a0 a1 a2 a3 a4 a5 S) l1 l2 l3 l4 l5 l6 S)
noncomputable def G_12 (l1 : Int32) (l2 : Int32) (l3 : Int32) (S : amS) : amQ := az_st (l1 * 26) fun x1 => az_st (az_rg 28 (S.1 17) l1) fun x2 => G_12_19 l1 l2 l3 x1 x2 0 S
theorem ev_12 (l1 : Int32) (l2 : Int32) (l3 : Int32) (S : amS) : EV (fun m n => g_12 n l1 l2 l3 S) (G_12 l1 l2 l3 S) := by
  unfold g_12 G_12
  exact ev_st (fun _ => ev_st (fun _ => ev_12_19 _ _ _ _ _ _ _))
theorem flh_11_8 {n n' : Nat} (hn : n ≤ n') {H8 H8' : Int32 → Int32 → Int32 → amS → amQ} (hH8 : ∀ a0 a1 a2 S, FL (H8 a0 a1 a2 S) (H8' a0 a1 a2 S)) (l1 : Int32) (l4 : Int32) (l5 : Int32) (S : amS) : FL (h_11_8 n H8 l1 l4 l5 S) (h_11_8 n' H8' l1 l4 l5 S) := by
  unfold h_11_8
  exact fl_ite (fl_refl) (fl_bI (fl_12 hn _ _ _ _) (fun _ _ => fl_st (fun _ => hH8 _ _ _ _)))
theorem fl_11_8 : ∀ {n n' : Nat} (hn : n ≤ n') (l1 : Int32) (l4 : Int32) (l5 : Int32) (S : amS), FL (g_11_8 n l1 l4 l5 S) (g_11_8 n' l1 l4 l5 S)
  | 0, _, _, _, _, _, _ => fl_none
  | n + 1, 0, h, _, _, _, _ => absurd h (Nat.not_succ_le_zero n)
  | n + 1, n' + 1, h, l1, l4, l5, S => flh_11_8 (Nat.le_of_succ_le_succ h) (fun a0 a1 a2 S => fl_11_8 (Nat.le_of_succ_le_succ h) a0 a1 a2 S) l1 l4 l5 S
theorem fl_11 {n n' : Nat} (hn : n ≤ n') (l1 : Int32) (l2 : Int32) (l3 : Int32) (S : amS) : FL (g_11 n l1 l2 l3 S) (g_11 n' l1 l2 l3 S) := by
  unfold g_11
  exact fl_st (fun _ => fl_11_8 hn _ _ _ _)
noncomputable def G_11_8 (l1 : Int32) (l4 : Int32) (l5 : Int32) (S : amS) : amQ := az_lim (fun m n => g_11_8 n l1 l4 l5 S)
theorem ev_11_8 (l1 : Int32) (l4 : Int32) (l5 : Int32) (S : amS) : EV (fun m n => g_11_8 n l1 l4 l5 S) (G_11_8 l1 l4 l5 S) := ev_lim (fun m m' n n' hm hn => fl_11_8 hn l1 l4 l5 S)
noncomputable def B_11_8 (H8 : Int32 → Int32 → Int32 → amS → amQ) (l1 : Int32) (l4 : Int32) (l5 : Int32) (S : amS) : amQ := if (S.1 12 9) < l5 then some (.inl (some (.int l4)), S) else az_bI (G_12 (az_rg 21 (S.1 20) l5) l1 l4 S) fun x1 S2 => az_st (((-1)) - x1) fun x3 => H8 l1 x3 (l5 + 1) S2
theorem evB_11_8 {N8 : Nat → Nat → Int32 → Int32 → Int32 → amS → amQ} {H8 : Int32 → Int32 → Int32 → amS → amQ} (hH8 : ∀ a0 a1 a2 S, EV (fun m n => N8 m n a0 a1 a2 S) (H8 a0 a1 a2 S)) (l1 : Int32) (l4 : Int32) (l5 : Int32) (S : amS) : EV (fun m n => h_11_8 n (N8 m n) l1 l4 l5 S) (B_11_8 H8 l1 l4 l5 S) := by
  unfold h_11_8 B_11_8
  exact ev_ite (ev_c) (ev_bI (ev_12 _ _ _ _) (fun _ _ => ev_st (fun _ => hH8 _ _ _ _)))
theorem G_11_8_eq (l1 : Int32) (l4 : Int32) (l5 : Int32) (S : amS) : G_11_8 l1 l4 l5 S = B_11_8 (G_11_8 ) l1 l4 l5 S := ev_uniq (f := fun m n => g_11_8 (n + 1) l1 l4 l5 S) (ev_shift (ev_11_8 l1 l4 l5 S)) (evB_11_8 (N8 := fun m n => g_11_8 n) (fun a0 a1 a2 S => ev_11_8 a0 a1 a2 S) l1 l4 l5 S)
noncomputable def G_11 (l1 : Int32) (l2 : Int32) (l3 : Int32) (S : amS) : amQ := az_st (l2 + 1) fun x1 => G_11_8 l1 l3 x1 S
theorem ev_11 (l1 : Int32) (l2 : Int32) (l3 : Int32) (S : amS) : EV (fun m n => g_11 n l1 l2 l3 S) (G_11 l1 l2 l3 S) := by
  unfold g_11 G_11
  exact ev_st (fun _ => ev_11_8 _ _ _ _)
theorem flh_42_47 {n n' : Nat} (hn : n ≤ n') {H47 H47' : Int32 → Int64 → Int32 → Int32 → amS → amQ} (hH47 : ∀ a0 a1 a2 a3 S, FL (H47 a0 a1 a2 a3 S) (H47' a0 a1 a2 a3 S)) (l1 : Int32) (l3 : Int64) (l5 : Int32) (l6 : Int32) (S : amS) : FL (h_42_47 n H47 l1 l3 l5 l6 S) (h_42_47 n' H47' l1 l3 l5 l6 S) := by
  unfold h_42_47
  exact fl_ite (fl_bV (fl_refl) (fun _ => fl_bI (fl_refl) (fun _ _ => fl_st (fun _ => fl_refl)))) (fl_bI (fl_refl) (fun _ _ => fl_bJ (fl_refl) (fun _ _ => fl_bV (fl_refl) (fun _ => hH47 _ _ _ _ _))))
theorem fl_42_47 : ∀ {n n' : Nat} (hn : n ≤ n') (l1 : Int32) (l3 : Int64) (l5 : Int32) (l6 : Int32) (S : amS), FL (g_42_47 n l1 l3 l5 l6 S) (g_42_47 n' l1 l3 l5 l6 S)
  | 0, _, _, _, _, _, _, _ => fl_none
  | n + 1, 0, h, _, _, _, _, _ => absurd h (Nat.not_succ_le_zero n)
  | n + 1, n' + 1, h, l1, l3, l5, l6, S => flh_42_47 (Nat.le_of_succ_le_succ h) (fun a0 a1 a2 a3 S => fl_42_47 (Nat.le_of_succ_le_succ h) a0 a1 a2 a3 S) l1 l3 l5 l6 S
theorem fl_42 {n n' : Nat} (hn : n ≤ n') (l1 : Int32) (l2 : Int32) (S : amS) : FL (g_42 n l1 l2 S) (g_42 n' l1 l2 S) := by
  unfold g_42
  exact fl_bJ (fl_refl) (fun _ _ => fl_ite (fl_bV (fl_refl) (fun _ => fl_refl)) (fl_bI (fl_refl) (fun _ _ => fl_42_47 hn _ _ _ _ _)))
noncomputable def G_42_47 (l1 : Int32) (l3 : Int64) (l5 : Int32) (l6 : Int32) (S : amS) : amQ := az_lim (fun m n => g_42_47 n l1 l3 l5 l6 S)
theorem ev_42_47 (l1 : Int32) (l3 : Int64) (l5 : Int32) (l6 : Int32) (S : amS) : EV (fun m n => g_42_47 n l1 l3 l5 l6 S) (G_42_47 l1 l3 l5 l6 S) := ev_lim (fun m m' n n' hm hn => fl_42_47 hn l1 l3 l5 l6 S)
noncomputable def B_42_47 (H47 : Int32 → Int64 → Int32 → Int32 → amS → amQ) (l1 : Int32) (l3 : Int64) (l5 : Int32) (l6 : Int32) (S : amS) : amQ := if l5 ≤ l6 then az_bV (g_37 l3 S) fun S1 => az_bI (g_14 l1 S1) fun x2 S3 => az_st (sI S3 24 10 x2) fun S4 => some (.inl none, S4) else az_bI (g_18 l1 l6 S) fun x5 S6 => az_bJ (g_41 x5 S6) fun x7 S8 => az_bV (g_22 x7 S8) fun S9 => H47 l1 l3 l5 (l6 + 1) S9
theorem evB_42_47 {N47 : Nat → Nat → Int32 → Int64 → Int32 → Int32 → amS → amQ} {H47 : Int32 → Int64 → Int32 → Int32 → amS → amQ} (hH47 : ∀ a0 a1 a2 a3 S, EV (fun m n => N47 m n a0 a1 a2 a3 S) (H47 a0 a1 a2 a3 S)) (l1 : Int32) (l3 : Int64) (l5 : Int32) (l6 : Int32) (S : amS) : EV (fun m n => h_42_47 n (N47 m n) l1 l3 l5 l6 S) (B_42_47 H47 l1 l3 l5 l6 S) := by
  unfold h_42_47 B_42_47
  exact ev_ite (ev_bV (ev_c) (fun _ => ev_bI (ev_c) (fun _ _ => ev_st (fun _ => ev_c)))) (ev_bI (ev_c) (fun _ _ => ev_bJ (ev_c) (fun _ _ => ev_bV (ev_c) (fun _ => hH47 _ _ _ _ _))))
theorem G_42_47_eq (l1 : Int32) (l3 : Int64) (l5 : Int32) (l6 : Int32) (S : amS) : G_42_47 l1 l3 l5 l6 S = B_42_47 (G_42_47 ) l1 l3 l5 l6 S := ev_uniq (f := fun m n => g_42_47 (n + 1) l1 l3 l5 l6 S) (ev_shift (ev_42_47 l1 l3 l5 l6 S)) (evB_42_47 (N47 := fun m n => g_42_47 n) (fun a0 a1 a2 a3 S => ev_42_47 a0 a1 a2 a3 S) l1 l3 l5 l6 S)
noncomputable def G_42 (l1 : Int32) (l2 : Int32) (S : amS) : amQ := az_bJ (g_21 3 (Int32.toInt64 l1) (Int32.toInt64 (S.1 25 4)) S) fun x1 S2 => if (lg_cmp x1 21474836480) = 0 then az_bV (g_35 5 l2 S2) fun S5 => some (.inl none, S5) else az_bI (g_17 l1 S2) fun x3 S4 => G_42_47 l1 x1 x3 0 S4
theorem ev_42 (l1 : Int32) (l2 : Int32) (S : amS) : EV (fun m n => g_42 n l1 l2 S) (G_42 l1 l2 S) := by
  unfold g_42 G_42
  exact ev_bJ (ev_c) (fun _ _ => ev_ite (ev_bV (ev_c) (fun _ => ev_c)) (ev_bI (ev_c) (fun _ _ => ev_42_47 _ _ _ _ _)))
theorem fl_33 {n n' : Nat} (hn : n ≤ n') (l1 : Int32) (l2 : Int32) (l3 : Int32) (S : amS) : FL (g_33 n l1 l2 l3 S) (g_33 n' l1 l2 l3 S) := by
  unfold g_33
  exact fl_ite (fl_bJ (fl_refl) (fun _ _ => fl_bV (fl_refl) (fun _ => fl_refl))) (fl_ite (fl_bV (fl_refl) (fun _ => fl_refl)) (fl_ite (fl_bJ (fl_refl) (fun _ _ => fl_bJ (fl_refl) (fun _ _ => fl_bV (fl_refl) (fun _ => fl_refl)))) (fl_ite (fl_bV (fl_42 hn _ _ _) (fun _ => fl_refl)) (fl_ite (fl_bJ (fl_refl) (fun _ _ => fl_bV (fl_refl) (fun _ => fl_refl))) (fl_refl)))))
noncomputable def G_33 (l1 : Int32) (l2 : Int32) (l3 : Int32) (S : amS) : amQ := if l1 = 2 then (az_bJ (g_111 0 l2 S) fun x1 S2 => az_bV (g_37 x1 S2) fun S3 => some (.inl none, S3)) else if l1 = 3 then (az_bV (g_37 4294967296 S) fun S4 => some (.inl none, S4)) else if l1 = 4 then (az_bJ (g_41 l2 S) fun x5 S6 => az_bJ (g_27 x5 S6) fun x7 S8 => az_bV (g_37 x7 S8) fun S9 => some (.inl none, S9)) else if l1 = 5 then (az_bV (G_42 l2 l3 S) fun S10 => some (.inl none, S10)) else if l1 = 6 then (az_bJ (g_21 4 4294967296 4294967296 S) fun x11 S12 => az_bV (g_40 x11 l3 S12) fun S13 => some (.inl none, S13)) else some (.inl none, S)
theorem ev_33 (l1 : Int32) (l2 : Int32) (l3 : Int32) (S : amS) : EV (fun m n => g_33 n l1 l2 l3 S) (G_33 l1 l2 l3 S) := by
  unfold g_33 G_33
  exact ev_ite (ev_bJ (ev_c) (fun _ _ => ev_bV (ev_c) (fun _ => ev_c))) (ev_ite (ev_bV (ev_c) (fun _ => ev_c)) (ev_ite (ev_bJ (ev_c) (fun _ _ => ev_bJ (ev_c) (fun _ _ => ev_bV (ev_c) (fun _ => ev_c)))) (ev_ite (ev_bV (ev_42 _ _ _) (fun _ => ev_c)) (ev_ite (ev_bJ (ev_c) (fun _ _ => ev_bV (ev_c) (fun _ => ev_c))) (ev_c)))))
theorem flh_45_11 {n n' : Nat} (hn : n ≤ n') {H11 H11' : Int32 → Int32 → Int32 → amS → amQ} (hH11 : ∀ a0 a1 a2 S, FL (H11 a0 a1 a2 S) (H11' a0 a1 a2 S)) (l1 : Int32) (l2 : Int32) (l3 : Int32) (S : amS) : FL (h_45_11 n H11 l1 l2 l3 S) (h_45_11 n' H11' l1 l2 l3 S) := by
  unfold h_45_11
  exact fl_ite (fl_st (fun _ => fl_refl)) (fl_bJ (fl_refl) (fun _ _ => fl_st (fun _ => hH11 _ _ _ _)))
theorem fl_45_11 : ∀ {n n' : Nat} (hn : n ≤ n') (l1 : Int32) (l2 : Int32) (l3 : Int32) (S : amS), FL (g_45_11 n l1 l2 l3 S) (g_45_11 n' l1 l2 l3 S)
  | 0, _, _, _, _, _, _ => fl_none
  | n + 1, 0, h, _, _, _, _ => absurd h (Nat.not_succ_le_zero n)
  | n + 1, n' + 1, h, l1, l2, l3, S => flh_45_11 (Nat.le_of_succ_le_succ h) (fun a0 a1 a2 S => fl_45_11 (Nat.le_of_succ_le_succ h) a0 a1 a2 S) l1 l2 l3 S
theorem fl_45 {n n' : Nat} (hn : n ≤ n') (l1 : Int32) (S : amS) : FL (g_45 n l1 S) (g_45 n' l1 S) := by
  unfold g_45
  exact fl_st (fun _ => fl_45_11 hn _ _ _ _)
noncomputable def G_45_11 (l1 : Int32) (l2 : Int32) (l3 : Int32) (S : amS) : amQ := az_lim (fun m n => g_45_11 n l1 l2 l3 S)
theorem ev_45_11 (l1 : Int32) (l2 : Int32) (l3 : Int32) (S : amS) : EV (fun m n => g_45_11 n l1 l2 l3 S) (G_45_11 l1 l2 l3 S) := ev_lim (fun m m' n n' hm hn => fl_45_11 hn l1 l2 l3 S)
noncomputable def B_45_11 (H11 : Int32 → Int32 → Int32 → amS → amQ) (l1 : Int32) (l2 : Int32) (l3 : Int32) (S : amS) : amQ := if l1 < l3 then az_st (sI S 24 8 ((S.1 24 9) + l1)) fun S1 => some (.inl none, S1) else az_bJ (g_36 (l2 + l3) S) fun x2 S3 => az_st (sRJ S3 31 6405 (((S.1 24 9) - 1) + l3) x2) fun S4 => H11 l1 l2 (l3 + 1) S4
theorem evB_45_11 {N11 : Nat → Nat → Int32 → Int32 → Int32 → amS → amQ} {H11 : Int32 → Int32 → Int32 → amS → amQ} (hH11 : ∀ a0 a1 a2 S, EV (fun m n => N11 m n a0 a1 a2 S) (H11 a0 a1 a2 S)) (l1 : Int32) (l2 : Int32) (l3 : Int32) (S : amS) : EV (fun m n => h_45_11 n (N11 m n) l1 l2 l3 S) (B_45_11 H11 l1 l2 l3 S) := by
  unfold h_45_11 B_45_11
  exact ev_ite (ev_st (fun _ => ev_c)) (ev_bJ (ev_c) (fun _ _ => ev_st (fun _ => hH11 _ _ _ _)))
theorem G_45_11_eq (l1 : Int32) (l2 : Int32) (l3 : Int32) (S : amS) : G_45_11 l1 l2 l3 S = B_45_11 (G_45_11 ) l1 l2 l3 S := ev_uniq (f := fun m n => g_45_11 (n + 1) l1 l2 l3 S) (ev_shift (ev_45_11 l1 l2 l3 S)) (evB_45_11 (N11 := fun m n => g_45_11 n) (fun a0 a1 a2 S => ev_45_11 a0 a1 a2 S) l1 l2 l3 S)
noncomputable def G_45 (l1 : Int32) (S : amS) : amQ := az_st (((S.1 24 8) - l1) - 1) fun x1 => G_45_11 l1 x1 0 S
theorem ev_45 (l1 : Int32) (S : amS) : EV (fun m n => g_45 n l1 S) (G_45 l1 S) := by
  unfold g_45 G_45
  exact ev_st (fun _ => ev_45_11 _ _ _ _)
theorem flh_44_117 {n n' : Nat} (hn : n ≤ n') {H117 H117' : Int32 → Int32 → Int32 → Int32 → amS → amQ} (hH117 : ∀ a0 a1 a2 a3 S, FL (H117 a0 a1 a2 a3 S) (H117' a0 a1 a2 a3 S)) (l1 : Int32) (l3 : Int32) (l7 : Int32) (l8 : Int32) (S : amS) : FL (h_44_117 n H117 l1 l3 l7 l8 S) (h_44_117 n' H117' l1 l3 l7 l8 S) := by
  unfold h_44_117
  exact fl_ite (fl_refl) (fl_ite (fl_bV (fl_refl) (fun _ => hH117 _ _ _ _ _)) (fl_refl))
theorem fl_44_117 : ∀ {n n' : Nat} (hn : n ≤ n') (l1 : Int32) (l3 : Int32) (l7 : Int32) (l8 : Int32) (S : amS), FL (g_44_117 n l1 l3 l7 l8 S) (g_44_117 n' l1 l3 l7 l8 S)
  | 0, _, _, _, _, _, _, _ => fl_none
  | n + 1, 0, h, _, _, _, _, _ => absurd h (Nat.not_succ_le_zero n)
  | n + 1, n' + 1, h, l1, l3, l7, l8, S => flh_44_117 (Nat.le_of_succ_le_succ h) (fun a0 a1 a2 a3 S => fl_44_117 (Nat.le_of_succ_le_succ h) a0 a1 a2 a3 S) l1 l3 l7 l8 S
theorem fl_44_90 {n n' : Nat} (hn : n ≤ n') (l1 : Int32) (l3 : Int32) (l6 : Int32) (S : amS) : FL (g_44_90 n l1 l3 l6 S) (g_44_90 n' l1 l3 l6 S) := by
  unfold g_44_90
  exact fl_bI (fl_refl) (fun _ _ => fl_st (fun _ => fl_bI (fl_refl) (fun _ _ => fl_44_117 hn _ _ _ _ _)))
theorem fl_44_47 {n n' : Nat} (hn : n ≤ n') (l3 : Int32) (S : amS) : FL (g_44_47 n l3 S) (g_44_47 n' l3 S) := by
  unfold g_44_47
  exact fl_bV (fl_refl) (fun _ => fl_refl)
theorem fl_44 {n n' : Nat} (hn : n ≤ n') (l1 : Int32) (l2 : Int32) (l3 : Int32) (S : amS) : FL (g_44 n l1 l2 l3 S) (g_44 n' l1 l2 l3 S) := by
  unfold g_44
  exact fl_bJ (fl_refl) (fun _ _ => fl_bI (fl_refl) (fun _ _ => fl_bI (fl_refl) (fun _ _ => fl_ite (fl_bI (fl_refl) (fun _ _ => fl_ite (fl_ite (fl_ite (fl_bV (fl_refl) (fun _ => fl_refl)) (fl_bV (fl_refl) (fun _ => fl_44_90 hn _ _ _ _))) (fl_bV (fl_45 hn _ _) (fun _ => fl_44_90 hn _ _ _ _))) (fl_44_47 hn _ _))) (fl_44_47 hn _ _))))
noncomputable def G_44_117 (l1 : Int32) (l3 : Int32) (l7 : Int32) (l8 : Int32) (S : amS) : amQ := az_lim (fun m n => g_44_117 n l1 l3 l7 l8 S)
theorem ev_44_117 (l1 : Int32) (l3 : Int32) (l7 : Int32) (l8 : Int32) (S : amS) : EV (fun m n => g_44_117 n l1 l3 l7 l8 S) (G_44_117 l1 l3 l7 l8 S) := ev_lim (fun m m' n n' hm hn => fl_44_117 hn l1 l3 l7 l8 S)
noncomputable def B_44_117 (H117 : Int32 → Int32 → Int32 → Int32 → amS → amQ) (l1 : Int32) (l3 : Int32) (l7 : Int32) (l8 : Int32) (S : amS) : amQ := if l1 ≤ l8 then some (.inl none, S) else if (S.1 24 13) = 2 then az_bV (g_43 (l7 + l8) l3 S) fun S1 => H117 l1 l3 l7 (l8 + 1) S1 else some (.inl none, S)
theorem evB_44_117 {N117 : Nat → Nat → Int32 → Int32 → Int32 → Int32 → amS → amQ} {H117 : Int32 → Int32 → Int32 → Int32 → amS → amQ} (hH117 : ∀ a0 a1 a2 a3 S, EV (fun m n => N117 m n a0 a1 a2 a3 S) (H117 a0 a1 a2 a3 S)) (l1 : Int32) (l3 : Int32) (l7 : Int32) (l8 : Int32) (S : amS) : EV (fun m n => h_44_117 n (N117 m n) l1 l3 l7 l8 S) (B_44_117 H117 l1 l3 l7 l8 S) := by
  unfold h_44_117 B_44_117
  exact ev_ite (ev_c) (ev_ite (ev_bV (ev_c) (fun _ => hH117 _ _ _ _ _)) (ev_c))
theorem G_44_117_eq (l1 : Int32) (l3 : Int32) (l7 : Int32) (l8 : Int32) (S : amS) : G_44_117 l1 l3 l7 l8 S = B_44_117 (G_44_117 ) l1 l3 l7 l8 S := ev_uniq (f := fun m n => g_44_117 (n + 1) l1 l3 l7 l8 S) (ev_shift (ev_44_117 l1 l3 l7 l8 S)) (evB_44_117 (N117 := fun m n => g_44_117 n) (fun a0 a1 a2 a3 S => ev_44_117 a0 a1 a2 a3 S) l1 l3 l7 l8 S)
noncomputable def G_44_90 (l1 : Int32) (l3 : Int32) (l6 : Int32) (S : amS) : amQ := az_bI (g_13 l6 S) fun x1 S2 => az_st (sI S2 24 10 x1) fun S3 => az_bI (g_16 l6 S3) fun x4 S5 => G_44_117 l1 l3 x4 0 S5
theorem ev_44_90 (l1 : Int32) (l3 : Int32) (l6 : Int32) (S : amS) : EV (fun m n => g_44_90 n l1 l3 l6 S) (G_44_90 l1 l3 l6 S) := by
  unfold g_44_90 G_44_90
  exact ev_bI (ev_c) (fun _ _ => ev_st (fun _ => ev_bI (ev_c) (fun _ _ => ev_44_117 _ _ _ _ _)))
noncomputable def G_44_47 (l3 : Int32) (S : amS) : amQ := az_bV (g_35 3 l3 S) fun S1 => some (.inl none, S1)
theorem ev_44_47 (l3 : Int32) (S : amS) : EV (fun m n => g_44_47 n l3 S) (G_44_47 l3 S) := by
  unfold g_44_47 G_44_47
  exact ev_bV (ev_c) (fun _ => ev_c)
noncomputable def G_44 (l1 : Int32) (l2 : Int32) (l3 : Int32) (S : amS) : amQ := az_bJ (g_36 (((S.1 24 8) - l1) - 1) S) fun x1 S2 => az_bI (g_25 x1 S2) fun x3 S4 => az_bI (g_112 x1 S4) fun x5 S6 => if x5 = 3 then az_bI (g_15 x3 S6) fun x7 S8 => if x7 = l1 then if l2 = 0 then if 60 ≤ (S8.1 24 11) then az_bV (g_35 4 l3 S8) fun S9 => some (.inl none, S9) else az_bV (g_46 l1 S8) fun S10 => G_44_90 l1 l3 x3 S10 else az_bV (G_45 l1 S8) fun S11 => G_44_90 l1 l3 x3 S11 else G_44_47 l3 S8 else G_44_47 l3 S6
theorem ev_44 (l1 : Int32) (l2 : Int32) (l3 : Int32) (S : amS) : EV (fun m n => g_44 n l1 l2 l3 S) (G_44 l1 l2 l3 S) := by
  unfold g_44 G_44
  exact ev_bJ (ev_c) (fun _ _ => ev_bI (ev_c) (fun _ _ => ev_bI (ev_c) (fun _ _ => ev_ite (ev_bI (ev_c) (fun _ _ => ev_ite (ev_ite (ev_ite (ev_bV (ev_c) (fun _ => ev_c)) (ev_bV (ev_c) (fun _ => ev_44_90 _ _ _ _))) (ev_bV (ev_45 _ _) (fun _ => ev_44_90 _ _ _ _))) (ev_44_47 _ _))) (ev_44_47 _ _))))
theorem fl_34_98 {n n' : Nat} (hn : n ≤ n') (s1 : Int32) (S : amS) : FL (g_34_98 n s1 S) (g_34_98 n' s1 S) := by
  unfold g_34_98
  exact fl_st (fun _ => fl_refl)
theorem fl_34 {n n' : Nat} (hn : n ≤ n') (l1 : Int32) (l2 : Int32) (l3 : Int32) (S : amS) : FL (g_34 n l1 l2 l3 S) (g_34 n' l1 l2 l3 S) := by
  unfold g_34
  exact fl_ite (fl_st (fun _ => fl_refl)) (fl_ite (fl_bJ (fl_refl) (fun _ _ => fl_refl)) (fl_ite (fl_st (fun _ => fl_refl)) (fl_ite (fl_bJ (fl_refl) (fun _ _ => fl_ite (fl_34_98 hn _ _) (fl_34_98 hn _ _))) (fl_ite (fl_bV (fl_refl) (fun _ => fl_refl)) (fl_ite (fl_bJ (fl_refl) (fun _ _ => fl_bJ (fl_refl) (fun _ _ => fl_bV (fl_refl) (fun _ => fl_refl)))) (fl_ite (fl_bV (fl_refl) (fun _ => fl_refl)) (fl_ite (fl_bV (fl_44 hn _ _ _ _) (fun _ => fl_refl)) (fl_ite (fl_bV (fl_44 hn _ _ _ _) (fun _ => fl_refl)) (fl_ite (fl_bV (fl_refl) (fun _ => fl_refl)) (fl_refl))))))))))
noncomputable def G_34_98 (s1 : Int32) (S : amS) : amQ := az_st (sI S 24 10 s1) fun S1 => some (.inl none, S1)
theorem ev_34_98 (s1 : Int32) (S : amS) : EV (fun m n => g_34_98 n s1 S) (G_34_98 s1 S) := by
  unfold g_34_98 G_34_98
  exact ev_st (fun _ => ev_c)
noncomputable def G_34 (l1 : Int32) (l2 : Int32) (l3 : Int32) (S : amS) : amQ := if l1 = 7 then (az_st (sI S 24 13 1) fun S1 => some (.inl none, S1)) else if l1 = 8 then (az_bJ (g_38 S) fun x2 S3 => some (.inl none, S3)) else if l1 = 9 then (az_st (sI S 24 10 l2) fun S4 => some (.inl none, S4)) else if l1 = 10 then (az_bJ (g_38 S) fun x5 S6 => if (lg_cmp x5 0) = 0 then G_34_98 l2 S6 else G_34_98 (S6.1 24 10) S6) else if l1 = 11 then (az_bV (g_43 l2 l3 S) fun S7 => some (.inl none, S7)) else if l1 = 12 then (az_bJ (g_41 l2 S) fun x8 S9 => az_bJ (g_36 ((S9.1 24 8) - 1) S9) fun x10 S11 => az_bV (g_28 x8 x10 S11) fun S12 => some (.inl none, S12)) else if l1 = 13 then (az_bV (g_39 (((S.1 24 8) - 1) - l2) S) fun S13 => some (.inl none, S13)) else if l1 = 14 then (az_bV (G_44 l2 0 l3 S) fun S14 => some (.inl none, S14)) else if l1 = 15 then (az_bV (G_44 l2 1 l3 S) fun S15 => some (.inl none, S15)) else if l1 = 16 then (az_bV (g_47 S) fun S16 => some (.inl none, S16)) else some (.inl none, S)
theorem ev_34 (l1 : Int32) (l2 : Int32) (l3 : Int32) (S : amS) : EV (fun m n => g_34 n l1 l2 l3 S) (G_34 l1 l2 l3 S) := by
  unfold g_34 G_34
  exact ev_ite (ev_st (fun _ => ev_c)) (ev_ite (ev_bJ (ev_c) (fun _ _ => ev_c)) (ev_ite (ev_st (fun _ => ev_c)) (ev_ite (ev_bJ (ev_c) (fun _ _ => ev_ite (ev_34_98 _ _) (ev_34_98 _ _))) (ev_ite (ev_bV (ev_c) (fun _ => ev_c)) (ev_ite (ev_bJ (ev_c) (fun _ _ => ev_bJ (ev_c) (fun _ _ => ev_bV (ev_c) (fun _ => ev_c)))) (ev_ite (ev_bV (ev_c) (fun _ => ev_c)) (ev_ite (ev_bV (ev_44 _ _ _ _) (fun _ => ev_c)) (ev_ite (ev_bV (ev_44 _ _ _ _) (fun _ => ev_c)) (ev_ite (ev_bV (ev_c) (fun _ => ev_c)) (ev_c))))))))))
theorem fl_32_174 {n n' : Nat} (hn : n ≤ n') (S : amS) : FL (g_32_174 n S) (g_32_174 n' S) := by
  unfold g_32_174
  exact fl_refl
theorem fl_32_168 {n n' : Nat} (hn : n ≤ n') {H4 H4' : Int32 → Int32 → amS → amQ} (hH4 : ∀ a0 a1 S, FL (H4 a0 a1 S) (H4' a0 a1 S)) (l2 : Int32) (l3 : Int32) (S : amS) : FL (g_32_168 n H4 l2 l3 S) (g_32_168 n' H4' l2 l3 S) := by
  unfold g_32_168
  exact hH4 _ _ _
theorem fl_32_60 {n n' : Nat} (hn : n ≤ n') {H4 H4' : Int32 → Int32 → amS → amQ} (hH4 : ∀ a0 a1 S, FL (H4 a0 a1 S) (H4' a0 a1 S)) (l2 : Int32) (l3 : Int32) (l4 : Int32) (S : amS) : FL (g_32_60 n H4 l2 l3 l4 S) (g_32_60 n' H4' l2 l3 l4 S) := by
  unfold g_32_60
  exact fl_st (fun _ => fl_st (fun _ => fl_st (fun _ => fl_ite (fl_ite (fl_ite (fl_bV (fl_refl) (fun _ => fl_32_168 hn hH4 _ _ _)) (fl_bV (fl_refl) (fun _ => fl_32_168 hn hH4 _ _ _))) (fl_bV (fl_34 hn _ _ _ _) (fun _ => fl_32_168 hn hH4 _ _ _))) (fl_bV (fl_33 hn _ _ _ _) (fun _ => fl_32_168 hn hH4 _ _ _)))))
theorem flh_32_4 {n n' : Nat} (hn : n ≤ n') {H4 H4' : Int32 → Int32 → amS → amQ} (hH4 : ∀ a0 a1 S, FL (H4 a0 a1 S) (H4' a0 a1 S)) (l2 : Int32) (l3 : Int32) (S : amS) : FL (h_32_4 n H4 l2 l3 S) (h_32_4 n' H4' l2 l3 S) := by
  unfold h_32_4
  exact fl_ite (fl_32_174 hn _) (fl_ite (fl_bI (fl_refl) (fun _ _ => fl_ite (fl_32_60 hn hH4 _ _ _ _) (fl_ite (fl_refl) (fl_st (fun _ => fl_32_60 hn hH4 _ _ _ _))))) (fl_32_174 hn _))
theorem fl_32_4 : ∀ {n n' : Nat} (hn : n ≤ n') (l2 : Int32) (l3 : Int32) (S : amS), FL (g_32_4 n l2 l3 S) (g_32_4 n' l2 l3 S)
  | 0, _, _, _, _, _ => fl_none
  | n + 1, 0, h, _, _, _ => absurd h (Nat.not_succ_le_zero n)
  | n + 1, n' + 1, h, l2, l3, S => flh_32_4 (Nat.le_of_succ_le_succ h) (fun a0 a1 S => fl_32_4 (Nat.le_of_succ_le_succ h) a0 a1 S) l2 l3 S
theorem fl_32 {n n' : Nat} (hn : n ≤ n') (l1 : Int32) (S : amS) : FL (g_32 n l1 S) (g_32 n' l1 S) := by
  unfold g_32
  exact fl_32_4 hn _ _ _
noncomputable def G_32_174 (S : amS) : amQ := some (.inl (some (.int (S.1 24 13))), S)
theorem ev_32_174 (S : amS) : EV (fun m n => g_32_174 n S) (G_32_174 S) := by
  unfold g_32_174 G_32_174
  exact ev_c
noncomputable def G_32_168 (H4 : Int32 → Int32 → amS → amQ) (l2 : Int32) (l3 : Int32) (S : amS) : amQ := H4 l2 (l3 + 1) S
theorem ev_32_168 {N4 : Nat → Nat → Int32 → Int32 → amS → amQ} {H4 : Int32 → Int32 → amS → amQ} (hH4 : ∀ a0 a1 S, EV (fun m n => N4 m n a0 a1 S) (H4 a0 a1 S)) (l2 : Int32) (l3 : Int32) (S : amS) : EV (fun m n => g_32_168 n (N4 m n) l2 l3 S) (G_32_168 H4 l2 l3 S) := by
  unfold g_32_168 G_32_168
  exact hH4 _ _ _
noncomputable def G_32_60 (H4 : Int32 → Int32 → amS → amQ) (l2 : Int32) (l3 : Int32) (l4 : Int32) (S : amS) : amQ := az_st (az_rg 502 (S.1 3) (S.1 24 10)) fun x1 => az_st (az_rg 502 (S.1 4) (S.1 24 10)) fun x2 => az_st (sI S 24 10 ((S.1 24 10) + 1)) fun S3 => if 6 < l4 then if 16 < l4 then if 22 < l4 then az_bV (g_51 l4 x2 S3) fun S4 => G_32_168 H4 l2 l3 S4 else az_bV (g_48 l4 x2 S3) fun S5 => G_32_168 H4 l2 l3 S5 else az_bV (G_34 l4 x1 x2 S3) fun S6 => G_32_168 H4 l2 l3 S6 else az_bV (G_33 l4 x1 x2 S3) fun S7 => G_32_168 H4 l2 l3 S7
theorem ev_32_60 {N4 : Nat → Nat → Int32 → Int32 → amS → amQ} {H4 : Int32 → Int32 → amS → amQ} (hH4 : ∀ a0 a1 S, EV (fun m n => N4 m n a0 a1 S) (H4 a0 a1 S)) (l2 : Int32) (l3 : Int32) (l4 : Int32) (S : amS) : EV (fun m n => g_32_60 n (N4 m n) l2 l3 l4 S) (G_32_60 H4 l2 l3 l4 S) := by
  unfold g_32_60 G_32_60
  exact ev_st (fun _ => ev_st (fun _ => ev_st (fun _ => ev_ite (ev_ite (ev_ite (ev_bV (ev_c) (fun _ => ev_32_168 hH4 _ _ _)) (ev_bV (ev_c) (fun _ => ev_32_168 hH4 _ _ _))) (ev_bV (ev_34 _ _ _ _) (fun _ => ev_32_168 hH4 _ _ _))) (ev_bV (ev_33 _ _ _ _) (fun _ => ev_32_168 hH4 _ _ _)))))
noncomputable def G_32_4 (l2 : Int32) (l3 : Int32) (S : amS) : amQ := az_lim (fun m n => g_32_4 n l2 l3 S)
theorem ev_32_4 (l2 : Int32) (l3 : Int32) (S : amS) : EV (fun m n => g_32_4 n l2 l3 S) (G_32_4 l2 l3 S) := ev_lim (fun m m' n n' hm hn => fl_32_4 hn l2 l3 S)
noncomputable def B_32_4 (H4 : Int32 → Int32 → amS → amQ) (l2 : Int32) (l3 : Int32) (S : amS) : amQ := if 1000000 ≤ l3 then G_32_174 S else if (S.1 24 13) = 2 then az_bI (g_4 (S.1 24 10) S) fun x1 S2 => if 6 < x1 then G_32_60 H4 l2 l3 x1 S2 else if l2 = 0 then some (.inl (some (.int (S2.1 24 13))), S2) else az_st (sI S2 24 12 ((S2.1 24 12) + 1)) fun S3 => G_32_60 H4 (l2 + (-1)) l3 x1 S3 else G_32_174 S
theorem evB_32_4 {N4 : Nat → Nat → Int32 → Int32 → amS → amQ} {H4 : Int32 → Int32 → amS → amQ} (hH4 : ∀ a0 a1 S, EV (fun m n => N4 m n a0 a1 S) (H4 a0 a1 S)) (l2 : Int32) (l3 : Int32) (S : amS) : EV (fun m n => h_32_4 n (N4 m n) l2 l3 S) (B_32_4 H4 l2 l3 S) := by
  unfold h_32_4 B_32_4
  exact ev_ite (ev_32_174 _) (ev_ite (ev_bI (ev_c) (fun _ _ => ev_ite (ev_32_60 hH4 _ _ _ _) (ev_ite (ev_c) (ev_st (fun _ => ev_32_60 hH4 _ _ _ _))))) (ev_32_174 _))
theorem G_32_4_eq (l2 : Int32) (l3 : Int32) (S : amS) : G_32_4 l2 l3 S = B_32_4 (G_32_4 ) l2 l3 S := ev_uniq (f := fun m n => g_32_4 (n + 1) l2 l3 S) (ev_shift (ev_32_4 l2 l3 S)) (evB_32_4 (N4 := fun m n => g_32_4 n) (fun a0 a1 S => ev_32_4 a0 a1 S) l2 l3 S)
noncomputable def G_32 (l1 : Int32) (S : amS) : amQ := G_32_4 l1 0 S
theorem ev_32 (l1 : Int32) (S : amS) : EV (fun m n => g_32 n l1 S) (G_32 l1 S) := by
  unfold g_32 G_32
  exact ev_32_4 _ _ _
theorem fl_53_84 {n n' : Nat} (hn : n ≤ n') {H39 H39' : Int32 → Int64 → Int32 → amS → amQ} (hH39 : ∀ a0 a1 a2 S, FL (H39 a0 a1 a2 S) (H39' a0 a1 a2 S)) (l1 : Int32) (l5 : Int32) (s0 : Int64) (S : amS) : FL (g_53_84 n H39 l1 l5 s0 S) (g_53_84 n' H39' l1 l5 s0 S) := by
  unfold g_53_84
  exact hH39 _ _ _ _
theorem flh_53_39 {n n' : Nat} (hn : n ≤ n') {H39 H39' : Int32 → Int64 → Int32 → amS → amQ} (hH39 : ∀ a0 a1 a2 S, FL (H39 a0 a1 a2 S) (H39' a0 a1 a2 S)) (l1 : Int32) (l2 : Int64) (l5 : Int32) (S : amS) : FL (h_53_39 n H39 l1 l2 l5 S) (h_53_39 n' H39' l1 l2 l5 S) := by
  unfold h_53_39
  exact fl_ite (fl_refl) (fl_bI (fl_refl) (fun _ _ => fl_ite (fl_ite (fl_bJ (fl_refl) (fun _ _ => fl_53_84 hn hH39 _ _ _ _)) (fl_bJ (fl_refl) (fun _ _ => fl_53_84 hn hH39 _ _ _ _))) (fl_refl)))
theorem fl_53_39 : ∀ {n n' : Nat} (hn : n ≤ n') (l1 : Int32) (l2 : Int64) (l5 : Int32) (S : amS), FL (g_53_39 n l1 l2 l5 S) (g_53_39 n' l1 l2 l5 S)
  | 0, _, _, _, _, _, _ => fl_none
  | n + 1, 0, h, _, _, _, _ => absurd h (Nat.not_succ_le_zero n)
  | n + 1, n' + 1, h, l1, l2, l5, S => flh_53_39 (Nat.le_of_succ_le_succ h) (fun a0 a1 a2 S => fl_53_39 (Nat.le_of_succ_le_succ h) a0 a1 a2 S) l1 l2 l5 S
theorem fl_53_33 {n n' : Nat} (hn : n ≤ n') (l1 : Int32) (l2 : Int64) (l4 : Int32) (S : amS) : FL (g_53_33 n l1 l2 l4 S) (g_53_33 n' l1 l2 l4 S) := by
  unfold g_53_33
  exact fl_st (fun _ => fl_53_39 hn _ _ _ _)
theorem flh_53_15 {n n' : Nat} (hn : n ≤ n') {H15 H15' : Int32 → Int64 → Int32 → amS → amQ} (hH15 : ∀ a0 a1 a2 S, FL (H15 a0 a1 a2 S) (H15' a0 a1 a2 S)) (l1 : Int32) (l2 : Int64) (l4 : Int32) (S : amS) : FL (h_53_15 n H15 l1 l2 l4 S) (h_53_15 n' H15' l1 l2 l4 S) := by
  unfold h_53_15
  exact fl_ite (fl_53_33 hn _ _ _ _) (fl_ite (hH15 _ _ _ _) (fl_53_33 hn _ _ _ _))
theorem fl_53_15 : ∀ {n n' : Nat} (hn : n ≤ n') (l1 : Int32) (l2 : Int64) (l4 : Int32) (S : amS), FL (g_53_15 n l1 l2 l4 S) (g_53_15 n' l1 l2 l4 S)
  | 0, _, _, _, _, _, _ => fl_none
  | n + 1, 0, h, _, _, _, _ => absurd h (Nat.not_succ_le_zero n)
  | n + 1, n' + 1, h, l1, l2, l4, S => flh_53_15 (Nat.le_of_succ_le_succ h) (fun a0 a1 a2 S => fl_53_15 (Nat.le_of_succ_le_succ h) a0 a1 a2 S) l1 l2 l4 S
theorem fl_53 {n n' : Nat} (hn : n ≤ n') (l1 : Int32) (S : amS) : FL (g_53 n l1 S) (g_53 n' l1 S) := by
  unfold g_53
  exact fl_bJ (fl_refl) (fun _ _ => fl_53_15 hn _ _ _ _)
noncomputable def G_53_84 (H39 : Int32 → Int64 → Int32 → amS → amQ) (l1 : Int32) (l5 : Int32) (s0 : Int64) (S : amS) : amQ := H39 l1 s0 (l5 + (-1)) S
theorem ev_53_84 {N39 : Nat → Nat → Int32 → Int64 → Int32 → amS → amQ} {H39 : Int32 → Int64 → Int32 → amS → amQ} (hH39 : ∀ a0 a1 a2 S, EV (fun m n => N39 m n a0 a1 a2 S) (H39 a0 a1 a2 S)) (l1 : Int32) (l5 : Int32) (s0 : Int64) (S : amS) : EV (fun m n => g_53_84 n (N39 m n) l1 l5 s0 S) (G_53_84 H39 l1 l5 s0 S) := by
  unfold g_53_84 G_53_84
  exact hH39 _ _ _ _
noncomputable def G_53_39 (l1 : Int32) (l2 : Int64) (l5 : Int32) (S : amS) : amQ := az_lim (fun m n => g_53_39 n l1 l2 l5 S)
theorem ev_53_39 (l1 : Int32) (l2 : Int64) (l5 : Int32) (S : amS) : EV (fun m n => g_53_39 n l1 l2 l5 S) (G_53_39 l1 l2 l5 S) := ev_lim (fun m m' n n' hm hn => fl_53_39 hn l1 l2 l5 S)
noncomputable def B_53_39 (H39 : Int32 → Int64 → Int32 → amS → amQ) (l1 : Int32) (l2 : Int64) (l5 : Int32) (S : amS) : amQ := if l5 < 0 then some (.inl (some (.long l2)), S) else az_bI (g_112 l2 S) fun x1 S2 => if x1 = 2 then if ((az_ushr l1 l5) &&& 1) = 0 then az_bJ (g_23 l2 S2) fun x5 S6 => G_53_84 H39 l1 l5 x5 S6 else az_bJ (g_24 l2 S2) fun x3 S4 => G_53_84 H39 l1 l5 x3 S4 else some (.inl (some (.long 21474836480)), S2)
theorem evB_53_39 {N39 : Nat → Nat → Int32 → Int64 → Int32 → amS → amQ} {H39 : Int32 → Int64 → Int32 → amS → amQ} (hH39 : ∀ a0 a1 a2 S, EV (fun m n => N39 m n a0 a1 a2 S) (H39 a0 a1 a2 S)) (l1 : Int32) (l2 : Int64) (l5 : Int32) (S : amS) : EV (fun m n => h_53_39 n (N39 m n) l1 l2 l5 S) (B_53_39 H39 l1 l2 l5 S) := by
  unfold h_53_39 B_53_39
  exact ev_ite (ev_c) (ev_bI (ev_c) (fun _ _ => ev_ite (ev_ite (ev_bJ (ev_c) (fun _ _ => ev_53_84 hH39 _ _ _ _)) (ev_bJ (ev_c) (fun _ _ => ev_53_84 hH39 _ _ _ _))) (ev_c)))
theorem G_53_39_eq (l1 : Int32) (l2 : Int64) (l5 : Int32) (S : amS) : G_53_39 l1 l2 l5 S = B_53_39 (G_53_39 ) l1 l2 l5 S := ev_uniq (f := fun m n => g_53_39 (n + 1) l1 l2 l5 S) (ev_shift (ev_53_39 l1 l2 l5 S)) (evB_53_39 (N39 := fun m n => g_53_39 n) (fun a0 a1 a2 S => ev_53_39 a0 a1 a2 S) l1 l2 l5 S)
noncomputable def G_53_33 (l1 : Int32) (l2 : Int64) (l4 : Int32) (S : amS) : amQ := az_st (l4 - 1) fun x1 => G_53_39 l1 l2 x1 S
theorem ev_53_33 (l1 : Int32) (l2 : Int64) (l4 : Int32) (S : amS) : EV (fun m n => g_53_33 n l1 l2 l4 S) (G_53_33 l1 l2 l4 S) := by
  unfold g_53_33 G_53_33
  exact ev_st (fun _ => ev_53_39 _ _ _ _)
noncomputable def G_53_15 (l1 : Int32) (l2 : Int64) (l4 : Int32) (S : amS) : amQ := az_lim (fun m n => g_53_15 n l1 l2 l4 S)
theorem ev_53_15 (l1 : Int32) (l2 : Int64) (l4 : Int32) (S : amS) : EV (fun m n => g_53_15 n l1 l2 l4 S) (G_53_15 l1 l2 l4 S) := ev_lim (fun m m' n n' hm hn => fl_53_15 hn l1 l2 l4 S)
noncomputable def B_53_15 (H15 : Int32 → Int64 → Int32 → amS → amQ) (l1 : Int32) (l2 : Int64) (l4 : Int32) (S : amS) : amQ := if l4 ≤ 0 then G_53_33 l1 l2 l4 S else if (az_ushr l1 l4) = 0 then H15 l1 l2 (l4 + (-1)) S else G_53_33 l1 l2 l4 S
theorem evB_53_15 {N15 : Nat → Nat → Int32 → Int64 → Int32 → amS → amQ} {H15 : Int32 → Int64 → Int32 → amS → amQ} (hH15 : ∀ a0 a1 a2 S, EV (fun m n => N15 m n a0 a1 a2 S) (H15 a0 a1 a2 S)) (l1 : Int32) (l2 : Int64) (l4 : Int32) (S : amS) : EV (fun m n => h_53_15 n (N15 m n) l1 l2 l4 S) (B_53_15 H15 l1 l2 l4 S) := by
  unfold h_53_15 B_53_15
  exact ev_ite (ev_53_33 _ _ _ _) (ev_ite (hH15 _ _ _ _) (ev_53_33 _ _ _ _))
theorem G_53_15_eq (l1 : Int32) (l2 : Int64) (l4 : Int32) (S : amS) : G_53_15 l1 l2 l4 S = B_53_15 (G_53_15 ) l1 l2 l4 S := ev_uniq (f := fun m n => g_53_15 (n + 1) l1 l2 l4 S) (ev_shift (ev_53_15 l1 l2 l4 S)) (evB_53_15 (N15 := fun m n => g_53_15 n) (fun a0 a1 a2 S => ev_53_15 a0 a1 a2 S) l1 l2 l4 S)
noncomputable def G_53 (l1 : Int32) (S : amS) : amQ := az_bJ (g_36 ((S.1 24 8) - 1) S) fun x1 S2 => G_53_15 l1 x1 30 S2
theorem ev_53 (l1 : Int32) (S : amS) : EV (fun m n => g_53 n l1 S) (G_53 l1 S) := by
  unfold g_53 G_53
  exact ev_bJ (ev_c) (fun _ _ => ev_53_15 _ _ _ _)
theorem flh_57_2 {n n' : Nat} (hn : n ≤ n') {H2 H2' : Int32 → Int32 → amS → amQ} (hH2 : ∀ a0 a1 S, FL (H2 a0 a1 S) (H2' a0 a1 S)) (l2 : Int32) (l3 : Int32) (S : amS) : FL (h_57_2 n H2 l2 l3 S) (h_57_2 n' H2' l2 l3 S) := by
  unfold h_57_2
  exact fl_ite (fl_refl) (fl_ite (fl_refl) (hH2 _ _ _))
theorem fl_57_2 : ∀ {n n' : Nat} (hn : n ≤ n') (l2 : Int32) (l3 : Int32) (S : amS), FL (g_57_2 n l2 l3 S) (g_57_2 n' l2 l3 S)
  | 0, _, _, _, _, _ => fl_none
  | n + 1, 0, h, _, _, _ => absurd h (Nat.not_succ_le_zero n)
  | n + 1, n' + 1, h, l2, l3, S => flh_57_2 (Nat.le_of_succ_le_succ h) (fun a0 a1 S => fl_57_2 (Nat.le_of_succ_le_succ h) a0 a1 S) l2 l3 S
theorem fl_57 {n n' : Nat} (hn : n ≤ n') (l1 : Int32) (l2 : Int32) (S : amS) : FL (g_57 n l1 l2 S) (g_57 n' l1 l2 S) := by
  unfold g_57
  exact fl_57_2 hn _ _ _
noncomputable def G_57_2 (l2 : Int32) (l3 : Int32) (S : amS) : amQ := az_lim (fun m n => g_57_2 n l2 l3 S)
theorem ev_57_2 (l2 : Int32) (l3 : Int32) (S : amS) : EV (fun m n => g_57_2 n l2 l3 S) (G_57_2 l2 l3 S) := ev_lim (fun m m' n n' hm hn => fl_57_2 hn l2 l3 S)
noncomputable def B_57_2 (H2 : Int32 → Int32 → amS → amQ) (l2 : Int32) (l3 : Int32) (S : amS) : amQ := if (S.1 5 8) ≤ l3 then some (.inl (some (.int 0)), S) else if (az_rg 250 (S.1 11) l3) = l2 then some (.inl (some (.int 1)), S) else H2 l2 (l3 + 1) S
theorem evB_57_2 {N2 : Nat → Nat → Int32 → Int32 → amS → amQ} {H2 : Int32 → Int32 → amS → amQ} (hH2 : ∀ a0 a1 S, EV (fun m n => N2 m n a0 a1 S) (H2 a0 a1 S)) (l2 : Int32) (l3 : Int32) (S : amS) : EV (fun m n => h_57_2 n (N2 m n) l2 l3 S) (B_57_2 H2 l2 l3 S) := by
  unfold h_57_2 B_57_2
  exact ev_ite (ev_c) (ev_ite (ev_c) (hH2 _ _ _))
theorem G_57_2_eq (l2 : Int32) (l3 : Int32) (S : amS) : G_57_2 l2 l3 S = B_57_2 (G_57_2 ) l2 l3 S := ev_uniq (f := fun m n => g_57_2 (n + 1) l2 l3 S) (ev_shift (ev_57_2 l2 l3 S)) (evB_57_2 (N2 := fun m n => g_57_2 n) (fun a0 a1 S => ev_57_2 a0 a1 S) l2 l3 S)
noncomputable def G_57 (l1 : Int32) (l2 : Int32) (S : amS) : amQ := G_57_2 l2 l1 S
theorem ev_57 (l1 : Int32) (l2 : Int32) (S : amS) : EV (fun m n => g_57 n l1 l2 S) (G_57 l1 l2 S) := by
  unfold g_57 G_57
  exact ev_57_2 _ _ _
theorem flh_58_11 {n n' : Nat} (hn : n ≤ n') {H11 H11' : Int32 → Int32 → Int32 → Int32 → Int32 → amS → amQ} (hH11 : ∀ a0 a1 a2 a3 a4 S, FL (H11 a0 a1 a2 a3 a4 S) (H11' a0 a1 a2 a3 a4 S)) (l1 : Int32) (l2 : Int32) (l3 : Int32) (l4 : Int32) (l5 : Int32) (S : amS) : FL (h_58_11 n H11 l1 l2 l3 l4 l5 S) (h_58_11 n' H11' l1 l2 l3 l4 l5 S) := by
  unfold h_58_11
  exact fl_ite (fl_st (fun _ => fl_refl)) (fl_st (fun _ => fl_st (fun _ => fl_st (fun _ => fl_bV (fl_refl) (fun _ => fl_st (fun _ => fl_st (fun _ => fl_st (fun _ => hH11 _ _ _ _ _ _))))))))
theorem fl_58_11 : ∀ {n n' : Nat} (hn : n ≤ n') (l1 : Int32) (l2 : Int32) (l3 : Int32) (l4 : Int32) (l5 : Int32) (S : amS), FL (g_58_11 n l1 l2 l3 l4 l5 S) (g_58_11 n' l1 l2 l3 l4 l5 S)
  | 0, _, _, _, _, _, _, _, _ => fl_none
  | n + 1, 0, h, _, _, _, _, _, _ => absurd h (Nat.not_succ_le_zero n)
  | n + 1, n' + 1, h, l1, l2, l3, l4, l5, S => flh_58_11 (Nat.le_of_succ_le_succ h) (fun a0 a1 a2 a3 a4 S => fl_58_11 (Nat.le_of_succ_le_succ h) a0 a1 a2 a3 a4 S) l1 l2 l3 l4 l5 S
theorem fl_58 {n n' : Nat} (hn : n ≤ n') (l1 : Int32) (l2 : Int32) (l3 : Int32) (S : amS) : FL (g_58 n l1 l2 l3 S) (g_58 n' l1 l2 l3 S) := by
  unfold g_58
  exact fl_st (fun _ => fl_58_11 hn _ _ _ _ _ _)
noncomputable def G_58_11 (l1 : Int32) (l2 : Int32) (l3 : Int32) (l4 : Int32) (l5 : Int32) (S : amS) : amQ := az_lim (fun m n => g_58_11 n l1 l2 l3 l4 l5 S)
theorem ev_58_11 (l1 : Int32) (l2 : Int32) (l3 : Int32) (l4 : Int32) (l5 : Int32) (S : amS) : EV (fun m n => g_58_11 n l1 l2 l3 l4 l5 S) (G_58_11 l1 l2 l3 l4 l5 S) := ev_lim (fun m m' n n' hm hn => fl_58_11 hn l1 l2 l3 l4 l5 S)
noncomputable def B_58_11 (H11 : Int32 → Int32 → Int32 → Int32 → Int32 → amS → amQ) (l1 : Int32) (l2 : Int32) (l3 : Int32) (l4 : Int32) (l5 : Int32) (S : amS) : amQ := if l4 ≤ l5 then az_st (sI S 5 8 l1) fun S1 => some (.inl (some (.int l4)), S1) else az_st (sR S 6 250 (S.1 5 4) (az_rg 250 (S.1 11) (l1 + l5))) fun S2 => az_st (sR S2 7 250 (S2.1 5 4) (l2 + l5)) fun S3 => az_st (sR S3 8 250 (S3.1 5 4) l3) fun S4 => az_bV (g_64 (S4.1 5 4) 0 S4) fun S5 => az_st (sR S5 10 250 (S5.1 5 6) (S5.1 5 4)) fun S6 => az_st (sI S6 5 6 ((S6.1 5 6) + 1)) fun S7 => az_st (sI S7 5 4 ((S7.1 5 4) + 1)) fun S8 => H11 l1 l2 l3 l4 (l5 + 1) S8
theorem evB_58_11 {N11 : Nat → Nat → Int32 → Int32 → Int32 → Int32 → Int32 → amS → amQ} {H11 : Int32 → Int32 → Int32 → Int32 → Int32 → amS → amQ} (hH11 : ∀ a0 a1 a2 a3 a4 S, EV (fun m n => N11 m n a0 a1 a2 a3 a4 S) (H11 a0 a1 a2 a3 a4 S)) (l1 : Int32) (l2 : Int32) (l3 : Int32) (l4 : Int32) (l5 : Int32) (S : amS) : EV (fun m n => h_58_11 n (N11 m n) l1 l2 l3 l4 l5 S) (B_58_11 H11 l1 l2 l3 l4 l5 S) := by
  unfold h_58_11 B_58_11
  exact ev_ite (ev_st (fun _ => ev_c)) (ev_st (fun _ => ev_st (fun _ => ev_st (fun _ => ev_bV (ev_c) (fun _ => ev_st (fun _ => ev_st (fun _ => ev_st (fun _ => hH11 _ _ _ _ _ _))))))))
theorem G_58_11_eq (l1 : Int32) (l2 : Int32) (l3 : Int32) (l4 : Int32) (l5 : Int32) (S : amS) : G_58_11 l1 l2 l3 l4 l5 S = B_58_11 (G_58_11 ) l1 l2 l3 l4 l5 S := ev_uniq (f := fun m n => g_58_11 (n + 1) l1 l2 l3 l4 l5 S) (ev_shift (ev_58_11 l1 l2 l3 l4 l5 S)) (evB_58_11 (N11 := fun m n => g_58_11 n) (fun a0 a1 a2 a3 a4 S => ev_58_11 a0 a1 a2 a3 a4 S) l1 l2 l3 l4 l5 S)
noncomputable def G_58 (l1 : Int32) (l2 : Int32) (l3 : Int32) (S : amS) : amQ := az_st ((S.1 5 8) - l1) fun x1 => G_58_11 l1 l2 l3 x1 0 S
theorem ev_58 (l1 : Int32) (l2 : Int32) (l3 : Int32) (S : amS) : EV (fun m n => g_58 n l1 l2 l3 S) (G_58 l1 l2 l3 S) := by
  unfold g_58 G_58
  exact ev_st (fun _ => ev_58_11 _ _ _ _ _ _)
theorem flh_60_7 {n n' : Nat} (hn : n ≤ n') {H7 H7' : Int32 → Int32 → amS → amQ} (hH7 : ∀ a0 a1 S, FL (H7 a0 a1 S) (H7' a0 a1 S)) (l1 : Int32) (l2 : Int32) (S : amS) : FL (h_60_7 n H7 l1 l2 S) (h_60_7 n' H7' l1 l2 S) := by
  unfold h_60_7
  exact fl_ite (fl_refl) (fl_st (fun _ => fl_ite (fl_refl) (hH7 _ _ _)))
theorem fl_60_7 : ∀ {n n' : Nat} (hn : n ≤ n') (l1 : Int32) (l2 : Int32) (S : amS), FL (g_60_7 n l1 l2 S) (g_60_7 n' l1 l2 S)
  | 0, _, _, _, _, _ => fl_none
  | n + 1, 0, h, _, _, _ => absurd h (Nat.not_succ_le_zero n)
  | n + 1, n' + 1, h, l1, l2, S => flh_60_7 (Nat.le_of_succ_le_succ h) (fun a0 a1 S => fl_60_7 (Nat.le_of_succ_le_succ h) a0 a1 S) l1 l2 S
theorem fl_60 {n n' : Nat} (hn : n ≤ n') (l1 : Int32) (S : amS) : FL (g_60 n l1 S) (g_60 n' l1 S) := by
  unfold g_60
  exact fl_st (fun _ => fl_60_7 hn _ _ _)
noncomputable def G_60_7 (l1 : Int32) (l2 : Int32) (S : amS) : amQ := az_lim (fun m n => g_60_7 n l1 l2 S)
theorem ev_60_7 (l1 : Int32) (l2 : Int32) (S : amS) : EV (fun m n => g_60_7 n l1 l2 S) (G_60_7 l1 l2 S) := ev_lim (fun m m' n n' hm hn => fl_60_7 hn l1 l2 S)
noncomputable def B_60_7 (H7 : Int32 → Int32 → amS → amQ) (l1 : Int32) (l2 : Int32) (S : amS) : amQ := if l2 < 0 then some (.inl (some (.int ((-1)))), S) else az_st (az_rg 250 (S.1 10) l2) fun x1 => if (az_rg 250 (S.1 6) x1) = l1 then some (.inl (some (.int x1)), S) else H7 l1 (l2 + (-1)) S
theorem evB_60_7 {N7 : Nat → Nat → Int32 → Int32 → amS → amQ} {H7 : Int32 → Int32 → amS → amQ} (hH7 : ∀ a0 a1 S, EV (fun m n => N7 m n a0 a1 S) (H7 a0 a1 S)) (l1 : Int32) (l2 : Int32) (S : amS) : EV (fun m n => h_60_7 n (N7 m n) l1 l2 S) (B_60_7 H7 l1 l2 S) := by
  unfold h_60_7 B_60_7
  exact ev_ite (ev_c) (ev_st (fun _ => ev_ite (ev_c) (hH7 _ _ _)))
theorem G_60_7_eq (l1 : Int32) (l2 : Int32) (S : amS) : G_60_7 l1 l2 S = B_60_7 (G_60_7 ) l1 l2 S := ev_uniq (f := fun m n => g_60_7 (n + 1) l1 l2 S) (ev_shift (ev_60_7 l1 l2 S)) (evB_60_7 (N7 := fun m n => g_60_7 n) (fun a0 a1 S => ev_60_7 a0 a1 S) l1 l2 S)
noncomputable def G_60 (l1 : Int32) (S : amS) : amQ := az_st ((S.1 5 6) - 1) fun x1 => G_60_7 l1 x1 S
theorem ev_60 (l1 : Int32) (S : amS) : EV (fun m n => g_60 n l1 S) (G_60 l1 S) := by
  unfold g_60 G_60
  exact ev_st (fun _ => ev_60_7 _ _ _)
theorem fl_103_37 {n n' : Nat} (hn : n ≤ n') (S : amS) : FL (g_103_37 n S) (g_103_37 n' S) := by
  unfold g_103_37
  exact fl_refl
theorem flh_103 {n n' : Nat} (hn : n ≤ n') {H0 H0' : amS → amQ} (hH0 : ∀  S, FL (H0  S) (H0'  S)) (S : amS) : FL (h_103 n H0 S) (h_103 n' H0' S) := by
  unfold h_103
  exact fl_ite (fl_103_37 hn _) (fl_bI (fl_refl) (fun _ _ => fl_ite (fl_st (fun _ => hH0 _)) (fl_103_37 hn _)))
theorem fl_103 : ∀ {n n' : Nat} (hn : n ≤ n') (S : amS), FL (g_103 n S) (g_103 n' S)
  | 0, _, _, _ => fl_none
  | n + 1, 0, h, _ => absurd h (Nat.not_succ_le_zero n)
  | n + 1, n' + 1, h, S => flh_103 (Nat.le_of_succ_le_succ h) (fun S => fl_103 (Nat.le_of_succ_le_succ h) S) S
noncomputable def G_103_37 (S : amS) : amQ := some (.inl (some (.int (S.1 21 3))), S)
theorem ev_103_37 (S : amS) : EV (fun m n => g_103_37 n S) (G_103_37 S) := by
  unfold g_103_37 G_103_37
  exact ev_c
noncomputable def G_103 (S : amS) : amQ := az_lim (fun m n => g_103 n S)
theorem ev_103 (S : amS) : EV (fun m n => g_103 n S) (G_103 S) := ev_lim (fun m m' n n' hm hn => fl_103 hn S)
noncomputable def B_103 (H0 : amS → amQ) (S : amS) : amQ := if (S.1 21 2) ≤ (S.1 21 3) then G_103_37 S else az_bI (g_102 (S.1 21 3) S) fun x1 S2 => if x1 = 32 then az_st (sI S2 21 3 ((S2.1 21 3) + 1)) fun S3 => H0 S3 else G_103_37 S2
theorem evB_103 {N0 : Nat → Nat → amS → amQ} {H0 : amS → amQ} (hH0 : ∀  S, EV (fun m n => N0 m n  S) (H0  S)) (S : amS) : EV (fun m n => h_103 n (N0 m n) S) (B_103 H0 S) := by
  unfold h_103 B_103
  exact ev_ite (ev_103_37 _) (ev_bI (ev_c) (fun _ _ => ev_ite (ev_st (fun _ => hH0 _)) (ev_103_37 _)))
theorem G_103_eq (S : amS) : G_103 S = B_103 (G_103 ) S := ev_uniq (f := fun m n => g_103 (n + 1) S) (ev_shift (ev_103 S)) (evB_103 (N0 := fun m n => g_103 n) (fun  S => ev_103  S) S)
theorem fl_104 {n n' : Nat} (hn : n ≤ n') (S : amS) : FL (g_104 n S) (g_104 n' S) := by
  unfold g_104
  exact fl_bI (fl_103 hn _) (fun _ _ => fl_bI (fl_refl) (fun _ _ => fl_refl))
noncomputable def G_104 (S : amS) : amQ := az_bI (G_103 S) fun x1 S2 => az_bI (g_102 x1 S2) fun x3 S4 => some (.inl (some (.int x3)), S4)
theorem ev_104 (S : amS) : EV (fun m n => g_104 n S) (G_104 S) := by
  unfold g_104 G_104
  exact ev_bI (ev_103 _) (fun _ _ => ev_bI (ev_c) (fun _ _ => ev_c))
theorem fl_105 {n n' : Nat} (hn : n ≤ n') (S : amS) : FL (g_105 n S) (g_105 n' S) := by
  unfold g_105
  exact fl_bI (fl_104 hn _) (fun _ _ => fl_ite (fl_refl) (fl_refl))
noncomputable def G_105 (S : amS) : amQ := az_bI (G_104 S) fun x1 S2 => if x1 = ((-1)) then some (.inl (some (.int 1)), S2) else some (.inl (some (.int 0)), S2)
theorem ev_105 (S : amS) : EV (fun m n => g_105 n S) (G_105 S) := by
  unfold g_105 G_105
  exact ev_bI (ev_104 _) (fun _ _ => ev_ite (ev_c) (ev_c))
theorem fl_75_132 {n n' : Nat} (hn : n ≤ n') (l1 : Int32) (l3 : Int32) (S : amS) : FL (g_75_132 n l1 l3 S) (g_75_132 n' l1 l3 S) := by
  unfold g_75_132
  exact fl_refl
theorem fl_75_101 {n n' : Nat} (hn : n ≤ n') (l1 : Int32) (l3 : Int32) (S : amS) : FL (g_75_101 n l1 l3 S) (g_75_101 n' l1 l3 S) := by
  unfold g_75_101
  exact fl_bI (fl_refl) (fun _ _ => fl_bI (fl_refl) (fun _ _ => fl_ite (fl_bV (fl_refl) (fun _ => fl_75_132 hn _ _ _)) (fl_75_132 hn _ _ _)))
theorem flh_75_33 {n n' : Nat} (hn : n ≤ n') {H33 H33' : Int32 → Int32 → Int32 → amS → amQ} (hH33 : ∀ a0 a1 a2 S, FL (H33 a0 a1 a2 S) (H33' a0 a1 a2 S)) (l1 : Int32) (l2 : Int32) (l3 : Int32) (S : amS) : FL (h_75_33 n H33 l1 l2 l3 S) (h_75_33 n' H33' l1 l2 l3 S) := by
  unfold h_75_33
  exact fl_ite (fl_75_101 hn _ _ _) (fl_bI (fl_refl) (fun _ _ => fl_bI (fl_refl) (fun _ _ => fl_ite (fl_75_101 hn _ _ _) (fl_bI (fl_refl) (fun _ _ => fl_st (fun _ => fl_st (fun _ => hH33 _ _ _ _)))))))
theorem fl_75_33 : ∀ {n n' : Nat} (hn : n ≤ n') (l1 : Int32) (l2 : Int32) (l3 : Int32) (S : amS), FL (g_75_33 n l1 l2 l3 S) (g_75_33 n' l1 l2 l3 S)
  | 0, _, _, _, _, _, _ => fl_none
  | n + 1, 0, h, _, _, _, _ => absurd h (Nat.not_succ_le_zero n)
  | n + 1, n' + 1, h, l1, l2, l3, S => flh_75_33 (Nat.le_of_succ_le_succ h) (fun a0 a1 a2 S => fl_75_33 (Nat.le_of_succ_le_succ h) a0 a1 a2 S) l1 l2 l3 S
theorem fl_75_29 {n n' : Nat} (hn : n ≤ n') (l1 : Int32) (S : amS) : FL (g_75_29 n l1 S) (g_75_29 n' l1 S) := by
  unfold g_75_29
  exact fl_75_33 hn _ _ _ _
theorem fl_75 {n n' : Nat} (hn : n ≤ n') (S : amS) : FL (g_75 n S) (g_75 n' S) := by
  unfold g_75
  exact fl_bI (fl_104 hn _) (fun _ _ => fl_ite (fl_st (fun _ => fl_75_29 hn _ _)) (fl_75_29 hn _ _))
noncomputable def G_75_132 (l1 : Int32) (l3 : Int32) (S : amS) : amQ := some (.inl (some (.int (l1 * l3))), S)
theorem ev_75_132 (l1 : Int32) (l3 : Int32) (S : amS) : EV (fun m n => g_75_132 n l1 l3 S) (G_75_132 l1 l3 S) := by
  unfold g_75_132 G_75_132
  exact ev_c
noncomputable def G_75_101 (l1 : Int32) (l3 : Int32) (S : amS) : amQ := az_bI (g_102 (S.1 21 3) S) fun x1 S2 => az_bI (g_109 x1 S2) fun x3 S4 => if x3 = 0 then az_bV (g_72 (S4.1 21 3) S4) fun S5 => G_75_132 l1 l3 S5 else G_75_132 l1 l3 S4
theorem ev_75_101 (l1 : Int32) (l3 : Int32) (S : amS) : EV (fun m n => g_75_101 n l1 l3 S) (G_75_101 l1 l3 S) := by
  unfold g_75_101 G_75_101
  exact ev_bI (ev_c) (fun _ _ => ev_bI (ev_c) (fun _ _ => ev_ite (ev_bV (ev_c) (fun _ => ev_75_132 _ _ _)) (ev_75_132 _ _ _)))
noncomputable def G_75_33 (l1 : Int32) (l2 : Int32) (l3 : Int32) (S : amS) : amQ := az_lim (fun m n => g_75_33 n l1 l2 l3 S)
theorem ev_75_33 (l1 : Int32) (l2 : Int32) (l3 : Int32) (S : amS) : EV (fun m n => g_75_33 n l1 l2 l3 S) (G_75_33 l1 l2 l3 S) := ev_lim (fun m m' n n' hm hn => fl_75_33 hn l1 l2 l3 S)
noncomputable def B_75_33 (H33 : Int32 → Int32 → Int32 → amS → amQ) (l1 : Int32) (l2 : Int32) (l3 : Int32) (S : amS) : amQ := if 9 ≤ l2 then G_75_101 l1 l3 S else az_bI (g_102 (S.1 21 3) S) fun x1 S2 => az_bI (g_110 x1 S2) fun x3 S4 => if x3 = 0 then G_75_101 l1 l3 S4 else az_bI (g_102 (S4.1 21 3) S4) fun x5 S6 => az_st (((l3 * 10) + x5) - 48) fun x7 => az_st (sI S6 21 3 ((S6.1 21 3) + 1)) fun S8 => H33 l1 (l2 + 1) x7 S8
theorem evB_75_33 {N33 : Nat → Nat → Int32 → Int32 → Int32 → amS → amQ} {H33 : Int32 → Int32 → Int32 → amS → amQ} (hH33 : ∀ a0 a1 a2 S, EV (fun m n => N33 m n a0 a1 a2 S) (H33 a0 a1 a2 S)) (l1 : Int32) (l2 : Int32) (l3 : Int32) (S : amS) : EV (fun m n => h_75_33 n (N33 m n) l1 l2 l3 S) (B_75_33 H33 l1 l2 l3 S) := by
  unfold h_75_33 B_75_33
  exact ev_ite (ev_75_101 _ _ _) (ev_bI (ev_c) (fun _ _ => ev_bI (ev_c) (fun _ _ => ev_ite (ev_75_101 _ _ _) (ev_bI (ev_c) (fun _ _ => ev_st (fun _ => ev_st (fun _ => hH33 _ _ _ _)))))))
theorem G_75_33_eq (l1 : Int32) (l2 : Int32) (l3 : Int32) (S : amS) : G_75_33 l1 l2 l3 S = B_75_33 (G_75_33 ) l1 l2 l3 S := ev_uniq (f := fun m n => g_75_33 (n + 1) l1 l2 l3 S) (ev_shift (ev_75_33 l1 l2 l3 S)) (evB_75_33 (N33 := fun m n => g_75_33 n) (fun a0 a1 a2 S => ev_75_33 a0 a1 a2 S) l1 l2 l3 S)
noncomputable def G_75_29 (l1 : Int32) (S : amS) : amQ := G_75_33 l1 0 0 S
theorem ev_75_29 (l1 : Int32) (S : amS) : EV (fun m n => g_75_29 n l1 S) (G_75_29 l1 S) := by
  unfold g_75_29 G_75_29
  exact ev_75_33 _ _ _ _
noncomputable def G_75 (S : amS) : amQ := az_bI (G_104 S) fun x1 S2 => if x1 = 45 then az_st (sI S2 21 3 ((S2.1 21 3) + 1)) fun S3 => G_75_29 ((-1)) S3 else G_75_29 1 S2
theorem ev_75 (S : amS) : EV (fun m n => g_75 n S) (G_75 S) := by
  unfold g_75 G_75
  exact ev_bI (ev_104 _) (fun _ _ => ev_ite (ev_st (fun _ => ev_75_29 _ _)) (ev_75_29 _ _))
theorem fl_77_42 {n n' : Nat} (hn : n ≤ n') (l3 : Int32) (S : amS) : FL (g_77_42 n l3 S) (g_77_42 n' l3 S) := by
  unfold g_77_42
  exact fl_st (fun _ => fl_refl)
theorem fl_77_32 {n n' : Nat} (hn : n ≤ n') (l1 : Int32) (s0 : Int32) (S : amS) : FL (g_77_32 n l1 s0 S) (g_77_32 n' l1 s0 S) := by
  unfold g_77_32
  exact fl_ite (fl_77_42 hn _ _) (fl_bV (fl_refl) (fun _ => fl_77_42 hn _ _))
theorem fl_77 {n n' : Nat} (hn : n ≤ n') (S : amS) : FL (g_77 n S) (g_77 n' S) := by
  unfold g_77
  exact fl_bI (fl_103 hn _) (fun _ _ => fl_bI (fl_refl) (fun _ _ => fl_ite (fl_bI (fl_60 hn _ _) (fun _ _ => fl_77_32 hn _ _ _)) (fl_77_32 hn _ _ _)))
noncomputable def G_77_42 (l3 : Int32) (S : amS) : amQ := az_st (sI S 21 3 ((S.1 21 3) + 1)) fun S1 => some (.inl (some (.int l3)), S1)
theorem ev_77_42 (l3 : Int32) (S : amS) : EV (fun m n => g_77_42 n l3 S) (G_77_42 l3 S) := by
  unfold g_77_42 G_77_42
  exact ev_st (fun _ => ev_c)
noncomputable def G_77_32 (l1 : Int32) (s0 : Int32) (S : amS) : amQ := if 0 ≤ s0 then G_77_42 s0 S else az_bV (g_72 l1 S) fun S1 => G_77_42 s0 S1
theorem ev_77_32 (l1 : Int32) (s0 : Int32) (S : amS) : EV (fun m n => g_77_32 n l1 s0 S) (G_77_32 l1 s0 S) := by
  unfold g_77_32 G_77_32
  exact ev_ite (ev_77_42 _ _) (ev_bV (ev_c) (fun _ => ev_77_42 _ _))
noncomputable def G_77 (S : amS) : amQ := az_bI (G_103 S) fun x1 S2 => az_bI (g_108 S2) fun x3 S4 => if 0 ≤ x3 then az_bI (G_60 x3 S4) fun x5 S6 => G_77_32 x1 x5 S6 else G_77_32 x1 ((-1)) S4
theorem ev_77 (S : amS) : EV (fun m n => g_77 n S) (G_77 S) := by
  unfold g_77 G_77
  exact ev_bI (ev_103 _) (fun _ _ => ev_bI (ev_c) (fun _ _ => ev_ite (ev_bI (ev_60 _ _) (fun _ _ => ev_77_32 _ _ _)) (ev_77_32 _ _ _)))
theorem fl_76 {n n' : Nat} (hn : n ≤ n') (S : amS) : FL (g_76 n S) (g_76 n' S) := by
  unfold g_76
  exact fl_bI (fl_103 hn _) (fun _ _ => fl_bI (fl_77 hn _) (fun _ _ => fl_bI (fl_refl) (fun _ _ => fl_bI (fl_refl) (fun _ _ => fl_bI (fl_11 hn _ _ _ _) (fun _ _ => fl_bV (fl_refl) (fun _ => fl_refl))))))
noncomputable def G_76 (S : amS) : amQ := az_bI (G_103 S) fun x1 S2 => az_bI (G_77 S2) fun x3 S4 => az_bI (g_62 x3 S4) fun x5 S6 => az_bI (g_61 x3 S6) fun x7 S8 => az_bI (G_11 x3 x5 x7 S8) fun x9 S10 => az_bV (g_74 4 x9 x1 S10) fun S11 => some (.inl none, S11)
theorem ev_76 (S : amS) : EV (fun m n => g_76 n S) (G_76 S) := by
  unfold g_76 G_76
  exact ev_bI (ev_103 _) (fun _ _ => ev_bI (ev_77 _) (fun _ _ => ev_bI (ev_c) (fun _ _ => ev_bI (ev_c) (fun _ _ => ev_bI (ev_11 _ _ _ _) (fun _ _ => ev_bV (ev_c) (fun _ => ev_c))))))
theorem flh_107_2 {n n' : Nat} (hn : n ≤ n') {H2 H2' : Nat → Int32 → amS → amQ} (hH2 : ∀ a0 a1 S, FL (H2 a0 a1 S) (H2' a0 a1 S)) (l1 : Nat) (l2 : Int32) (S : amS) : FL (h_107_2 n H2 l1 l2 S) (h_107_2 n' H2' l1 l2 S) := by
  unfold h_107_2
  exact fl_if (fl_ite (fl_if (fl_bI (fl_refl) (fun _ _ => fl_bI (fl_refl) (fun _ _ => fl_if (fl_refl))))) (fl_bI (fl_refl) (fun _ _ => fl_if (fl_ck (fl_ite (hH2 _ _ _) (fl_refl))))))
theorem fl_107_2 : ∀ {n n' : Nat} (hn : n ≤ n') (l1 : Nat) (l2 : Int32) (S : amS), FL (g_107_2 n l1 l2 S) (g_107_2 n' l1 l2 S)
  | 0, _, _, _, _, _ => fl_none
  | n + 1, 0, h, _, _, _ => absurd h (Nat.not_succ_le_zero n)
  | n + 1, n' + 1, h, l1, l2, S => flh_107_2 (Nat.le_of_succ_le_succ h) (fun a0 a1 S => fl_107_2 (Nat.le_of_succ_le_succ h) a0 a1 S) l1 l2 S
theorem fl_107 {n n' : Nat} (hn : n ≤ n') (l1 : Nat) (S : amS) : FL (g_107 n l1 S) (g_107 n' l1 S) := by
  unfold g_107
  exact fl_107_2 hn _ _ _
noncomputable def G_107_2 (l1 : Nat) (l2 : Int32) (S : amS) : amQ := az_lim (fun m n => g_107_2 n l1 l2 S)
theorem ev_107_2 (l1 : Nat) (l2 : Int32) (S : amS) : EV (fun m n => g_107_2 n l1 l2 S) (G_107_2 l1 l2 S) := ev_lim (fun m m' n n' hm hn => fl_107_2 hn l1 l2 S)
noncomputable def B_107_2 (H2 : Nat → Int32 → amS → amQ) (l1 : Nat) (l2 : Int32) (S : amS) : amQ := az_if (1100 ≤ l1 ∧ l1 < 1120) (if (Int32.ofNat (am_tx.getD (l1 - 1100) []).length) ≤ l2 then az_if (1100 ≤ l1 ∧ l1 < 1120) (az_bI (g_102 ((S.1 21 3) + (Int32.ofNat (am_tx.getD (l1 - 1100) []).length)) S) fun x1 S2 => az_bI (g_109 x1 S2) fun x3 S4 => az_if (x3 = 0 ∨ x3 = 1) (some (.inl (some (.int x3)), S4))) else az_bI (g_102 ((S.1 21 3) + l2) S) fun x5 S6 => az_if (1100 ≤ l1 ∧ l1 < 1120) (az_ck l2 (am_tx.getD (l1 - 1100) []).length (if x5 = ((am_tx.getD (l1 - 1100) []).getD l2.toNatClampNeg 0) then H2 l1 (l2 + 1) S6 else some (.inl (some (.int 0)), S6))))
theorem evB_107_2 {N2 : Nat → Nat → Nat → Int32 → amS → amQ} {H2 : Nat → Int32 → amS → amQ} (hH2 : ∀ a0 a1 S, EV (fun m n => N2 m n a0 a1 S) (H2 a0 a1 S)) (l1 : Nat) (l2 : Int32) (S : amS) : EV (fun m n => h_107_2 n (N2 m n) l1 l2 S) (B_107_2 H2 l1 l2 S) := by
  unfold h_107_2 B_107_2
  exact ev_if (ev_ite (ev_if (ev_bI (ev_c) (fun _ _ => ev_bI (ev_c) (fun _ _ => ev_if (ev_c))))) (ev_bI (ev_c) (fun _ _ => ev_if (ev_ck (ev_ite (hH2 _ _ _) (ev_c))))))
theorem G_107_2_eq (l1 : Nat) (l2 : Int32) (S : amS) : G_107_2 l1 l2 S = B_107_2 (G_107_2 ) l1 l2 S := ev_uniq (f := fun m n => g_107_2 (n + 1) l1 l2 S) (ev_shift (ev_107_2 l1 l2 S)) (evB_107_2 (N2 := fun m n => g_107_2 n) (fun a0 a1 S => ev_107_2 a0 a1 S) l1 l2 S)
noncomputable def G_107 (l1 : Nat) (S : amS) : amQ := G_107_2 l1 0 S
theorem ev_107 (l1 : Nat) (S : amS) : EV (fun m n => g_107 n l1 S) (G_107 l1 S) := by
  unfold g_107 G_107
  exact ev_107_2 _ _ _
theorem flh_79_2 {n n' : Nat} (hn : n ≤ n') {H2 H2' : Int32 → amS → amQ} (hH2 : ∀ a0 S, FL (H2 a0 S) (H2' a0 S)) (l1 : Int32) (S : amS) : FL (h_79_2 n H2 l1 S) (h_79_2 n' H2' l1 S) := by
  unfold h_79_2
  exact fl_ite (fl_refl) (fl_ck (fl_if (fl_bI (fl_107 hn _ _) (fun _ _ => fl_ite (hH2 _ _) (fl_ck (fl_refl))))))
theorem fl_79_2 : ∀ {n n' : Nat} (hn : n ≤ n') (l1 : Int32) (S : amS), FL (g_79_2 n l1 S) (g_79_2 n' l1 S)
  | 0, _, _, _, _ => fl_none
  | n + 1, 0, h, _, _ => absurd h (Nat.not_succ_le_zero n)
  | n + 1, n' + 1, h, l1, S => flh_79_2 (Nat.le_of_succ_le_succ h) (fun a0 S => fl_79_2 (Nat.le_of_succ_le_succ h) a0 S) l1 S
theorem fl_79 {n n' : Nat} (hn : n ≤ n') (S : amS) : FL (g_79 n S) (g_79 n' S) := by
  unfold g_79
  exact fl_79_2 hn _ _
noncomputable def G_79_2 (l1 : Int32) (S : amS) : amQ := az_lim (fun m n => g_79_2 n l1 S)
theorem ev_79_2 (l1 : Int32) (S : amS) : EV (fun m n => g_79_2 n l1 S) (G_79_2 l1 S) := ev_lim (fun m m' n n' hm hn => fl_79_2 hn l1 S)
noncomputable def B_79_2 (H2 : Int32 → amS → amQ) (l1 : Int32) (S : amS) : amQ := if 19 ≤ l1 then some (.inl (some .null), S) else az_ck l1 19 (az_if (1000 ≤ (1000 + l1.toNatClampNeg) ∧ (1000 + l1.toNatClampNeg) < 1019) (az_bI (G_107 ((1000 + l1.toNatClampNeg) + 100) S) fun x1 S2 => if x1 = 0 then H2 (l1 + 1) S2 else az_ck l1 19 (some (.inl (some (.ref (1000 + l1.toNatClampNeg))), S2))))
theorem evB_79_2 {N2 : Nat → Nat → Int32 → amS → amQ} {H2 : Int32 → amS → amQ} (hH2 : ∀ a0 S, EV (fun m n => N2 m n a0 S) (H2 a0 S)) (l1 : Int32) (S : amS) : EV (fun m n => h_79_2 n (N2 m n) l1 S) (B_79_2 H2 l1 S) := by
  unfold h_79_2 B_79_2
  exact ev_ite (ev_c) (ev_ck (ev_if (ev_bI (ev_107 _ _) (fun _ _ => ev_ite (hH2 _ _) (ev_ck (ev_c))))))
theorem G_79_2_eq (l1 : Int32) (S : amS) : G_79_2 l1 S = B_79_2 (G_79_2 ) l1 S := ev_uniq (f := fun m n => g_79_2 (n + 1) l1 S) (ev_shift (ev_79_2 l1 S)) (evB_79_2 (N2 := fun m n => g_79_2 n) (fun a0 S => ev_79_2 a0 S) l1 S)
noncomputable def G_79 (S : amS) : amQ := G_79_2 0 S
theorem ev_79 (S : amS) : EV (fun m n => g_79 n S) (G_79 S) := by
  unfold g_79 G_79
  exact ev_79_2 _ _
theorem fl_81_22 {n n' : Nat} (hn : n ≤ n') (S : amS) : FL (g_81_22 n S) (g_81_22 n' S) := by
  unfold g_81_22
  exact fl_st (fun _ => fl_refl)
theorem fl_81 {n n' : Nat} (hn : n ≤ n') (l1 : Int32) (S : amS) : FL (g_81 n l1 S) (g_81 n' l1 S) := by
  unfold g_81
  exact fl_bI (fl_104 hn _) (fun _ _ => fl_ite (fl_81_22 hn _) (fl_bV (fl_refl) (fun _ => fl_81_22 hn _)))
noncomputable def G_81_22 (S : amS) : amQ := az_st (sI S 21 3 ((S.1 21 3) + 1)) fun S1 => some (.inl none, S1)
theorem ev_81_22 (S : amS) : EV (fun m n => g_81_22 n S) (G_81_22 S) := by
  unfold g_81_22 G_81_22
  exact ev_st (fun _ => ev_c)
noncomputable def G_81 (l1 : Int32) (S : amS) : amQ := az_bI (G_104 S) fun x1 S2 => if x1 = l1 then G_81_22 S2 else az_bV (g_72 (S2.1 21 3) S2) fun S3 => G_81_22 S3
theorem ev_81 (l1 : Int32) (S : amS) : EV (fun m n => g_81 n l1 S) (G_81 l1 S) := by
  unfold g_81 G_81
  exact ev_bI (ev_104 _) (fun _ _ => ev_ite (ev_81_22 _) (ev_bV (ev_c) (fun _ => ev_81_22 _)))
theorem fl_84_37 {n n' : Nat} (hn : n ≤ n') (l3 : Int32) (S : amS) : FL (g_84_37 n l3 S) (g_84_37 n' l3 S) := by
  unfold g_84_37
  exact fl_st (fun _ => fl_bV (fl_refl) (fun _ => fl_refl))
theorem fl_84_32 {n n' : Nat} (hn : n ≤ n') (l2 : Int32) (l3 : Int32) (S : amS) : FL (g_84_32 n l2 l3 S) (g_84_32 n' l2 l3 S) := by
  unfold g_84_32
  exact fl_bV (fl_refl) (fun _ => fl_84_37 hn _ _)
theorem fl_84 {n n' : Nat} (hn : n ≤ n') (l1 : Int32) (S : amS) : FL (g_84 n l1 S) (g_84 n' l1 S) := by
  unfold g_84
  exact fl_bI (fl_103 hn _) (fun _ _ => fl_bI (fl_refl) (fun _ _ => fl_ite (fl_84_32 hn _ _ _) (fl_bI (fl_57 hn _ _ _) (fun _ _ => fl_ite (fl_84_37 hn _ _) (fl_84_32 hn _ _ _)))))
noncomputable def G_84_37 (l3 : Int32) (S : amS) : amQ := az_st (sI S 21 3 ((S.1 21 3) + 1)) fun S1 => az_bV (g_56 l3 S1) fun S2 => some (.inl none, S2)
theorem ev_84_37 (l3 : Int32) (S : amS) : EV (fun m n => g_84_37 n l3 S) (G_84_37 l3 S) := by
  unfold g_84_37 G_84_37
  exact ev_st (fun _ => ev_bV (ev_c) (fun _ => ev_c))
noncomputable def G_84_32 (l2 : Int32) (l3 : Int32) (S : amS) : amQ := az_bV (g_72 l2 S) fun S1 => G_84_37 l3 S1
theorem ev_84_32 (l2 : Int32) (l3 : Int32) (S : amS) : EV (fun m n => g_84_32 n l2 l3 S) (G_84_32 l2 l3 S) := by
  unfold g_84_32 G_84_32
  exact ev_bV (ev_c) (fun _ => ev_84_37 _ _)
noncomputable def G_84 (l1 : Int32) (S : amS) : amQ := az_bI (G_103 S) fun x1 S2 => az_bI (g_108 S2) fun x3 S4 => if x3 < 0 then G_84_32 x1 x3 S4 else az_bI (G_57 l1 x3 S4) fun x5 S6 => if x5 = 0 then G_84_37 x3 S6 else G_84_32 x1 x3 S6
theorem ev_84 (l1 : Int32) (S : amS) : EV (fun m n => g_84 n l1 S) (G_84 l1 S) := by
  unfold g_84 G_84
  exact ev_bI (ev_103 _) (fun _ _ => ev_bI (ev_c) (fun _ _ => ev_ite (ev_84_32 _ _ _) (ev_bI (ev_57 _ _ _) (fun _ _ => ev_ite (ev_84_37 _ _) (ev_84_32 _ _ _)))))
theorem flh_100_5 {n n' : Nat} (hn : n ≤ n') {H5 H5' : Int64 → Int32 → amS → amQ} (hH5 : ∀ a0 a1 S, FL (H5 a0 a1 S) (H5' a0 a1 S)) (l1 : Int64) (l4 : Int32) (S : amS) : FL (h_100_5 n H5 l1 l4 S) (h_100_5 n' H5' l1 l4 S) := by
  unfold h_100_5
  exact fl_ite (fl_refl) (fl_st (fun _ => fl_st (fun _ => hH5 _ _ _)))
theorem fl_100_5 : ∀ {n n' : Nat} (hn : n ≤ n') (l1 : Int64) (l4 : Int32) (S : amS), FL (g_100_5 n l1 l4 S) (g_100_5 n' l1 l4 S)
  | 0, _, _, _, _, _ => fl_none
  | n + 1, 0, h, _, _, _ => absurd h (Nat.not_succ_le_zero n)
  | n + 1, n' + 1, h, l1, l4, S => flh_100_5 (Nat.le_of_succ_le_succ h) (fun a0 a1 S => fl_100_5 (Nat.le_of_succ_le_succ h) a0 a1 S) l1 l4 S
theorem fl_100 {n n' : Nat} (hn : n ≤ n') (l1 : Int64) (l3 : Int32) (S : amS) : FL (g_100 n l1 l3 S) (g_100 n' l1 l3 S) := by
  unfold g_100
  exact fl_st (fun _ => fl_100_5 hn _ _ _)
noncomputable def G_100_5 (l1 : Int64) (l4 : Int32) (S : amS) : amQ := az_lim (fun m n => g_100_5 n l1 l4 S)
theorem ev_100_5 (l1 : Int64) (l4 : Int32) (S : amS) : EV (fun m n => g_100_5 n l1 l4 S) (G_100_5 l1 l4 S) := ev_lim (fun m m' n n' hm hn => fl_100_5 hn l1 l4 S)
noncomputable def B_100_5 (H5 : Int64 → Int32 → amS → amQ) (l1 : Int64) (l4 : Int32) (S : amS) : amQ := if l4 < 0 then some (.inl (some (.int (S.1 21 1))), S) else az_st (sR S 22 250 (S.1 21 1) ((Int64.toInt32 (az_lushr l1 (8 * l4))) &&& 255)) fun S1 => az_st (sI S1 21 1 ((S1.1 21 1) + 1)) fun S2 => H5 l1 (l4 + (-1)) S2
theorem evB_100_5 {N5 : Nat → Nat → Int64 → Int32 → amS → amQ} {H5 : Int64 → Int32 → amS → amQ} (hH5 : ∀ a0 a1 S, EV (fun m n => N5 m n a0 a1 S) (H5 a0 a1 S)) (l1 : Int64) (l4 : Int32) (S : amS) : EV (fun m n => h_100_5 n (N5 m n) l1 l4 S) (B_100_5 H5 l1 l4 S) := by
  unfold h_100_5 B_100_5
  exact ev_ite (ev_c) (ev_st (fun _ => ev_st (fun _ => hH5 _ _ _)))
theorem G_100_5_eq (l1 : Int64) (l4 : Int32) (S : amS) : G_100_5 l1 l4 S = B_100_5 (G_100_5 ) l1 l4 S := ev_uniq (f := fun m n => g_100_5 (n + 1) l1 l4 S) (ev_shift (ev_100_5 l1 l4 S)) (evB_100_5 (N5 := fun m n => g_100_5 n) (fun a0 a1 S => ev_100_5 a0 a1 S) l1 l4 S)
noncomputable def G_100 (l1 : Int64) (l3 : Int32) (S : amS) : amQ := az_st (l3 - 1) fun x1 => G_100_5 l1 x1 S
theorem ev_100 (l1 : Int64) (l3 : Int32) (S : amS) : EV (fun m n => g_100 n l1 l3 S) (G_100 l1 l3 S) := by
  unfold g_100 G_100
  exact ev_st (fun _ => ev_100_5 _ _ _)
theorem fl_116 {n n' : Nat} (hn : n ≤ n') (l1 : Int64) (l3 : Int32) (S : amS) : FL (g_116 n l1 l3 S) (g_116 n' l1 l3 S) := by
  unfold g_116
  exact fl_ite (fl_refl) (fl_ite (fl_bI (fl_refl) (fun _ _ => fl_ite (fl_refl) (fl_bI (fl_100 hn _ _ _) (fun _ _ => fl_refl)))) (fl_refl))
noncomputable def G_116 (l1 : Int64) (l3 : Int32) (S : amS) : amQ := if l3 < 1 then some (.inr 0, S) else if l3 ≤ 8 then az_bI (g_99 l3 S) fun x1 S2 => if x1 = 0 then some (.inr 1, S2) else az_bI (G_100 l1 l3 S2) fun x3 S4 => some (.inl (some (.int x3)), S4) else some (.inr 0, S)
theorem ev_116 (l1 : Int64) (l3 : Int32) (S : amS) : EV (fun m n => g_116 n l1 l3 S) (G_116 l1 l3 S) := by
  unfold g_116 G_116
  exact ev_ite (ev_c) (ev_ite (ev_bI (ev_c) (fun _ _ => ev_ite (ev_c) (ev_bI (ev_100 _ _ _) (fun _ _ => ev_c)))) (ev_c))
theorem fl_119 {n n' : Nat} (hn : n ≤ n') (l1 : Int32) (S : amS) : FL (g_119 n l1 S) (g_119 n' l1 S) := by
  unfold g_119
  exact fl_ite (fl_refl) (fl_ite (fl_ite (fl_bI (fl_32 hn _ _) (fun _ _ => fl_refl)) (fl_refl)) (fl_refl))
noncomputable def G_119 (l1 : Int32) (S : amS) : amQ := if l1 < 1 then some (.inr 0, S) else if l1 ≤ 2000 then if (S.1 24 13) = 2 then az_bI (G_32 l1 S) fun x1 S2 => some (.inl (some (.int x1)), S2) else some (.inr 1, S) else some (.inr 0, S)
theorem ev_119 (l1 : Int32) (S : amS) : EV (fun m n => g_119 n l1 S) (G_119 l1 S) := by
  unfold g_119 G_119
  exact ev_ite (ev_c) (ev_ite (ev_ite (ev_bI (ev_32 _ _) (fun _ _ => ev_c)) (ev_c)) (ev_c))
theorem fl_123 {n n' : Nat} (hn : n ≤ n') (l1 : Int32) (S : amS) : FL (g_123 n l1 S) (g_123 n' l1 S) := by
  unfold g_123
  exact fl_bV (fl_refl) (fun _ => fl_bJ (fl_53 hn _ _) (fun _ _ => fl_ite (fl_refl) (fl_bI (fl_refl) (fun _ _ => fl_refl))))
noncomputable def G_123 (l1 : Int32) (S : amS) : amQ := az_bV (g_125 l1 S) fun S1 => az_bJ (G_53 l1 S1) fun x2 S3 => if (lg_cmp x2 21474836480) = 0 then some (.inl (some (.int ((-1)))), S3) else az_bI (g_112 x2 S3) fun x4 S5 => some (.inl (some (.int x4)), S5)
theorem ev_123 (l1 : Int32) (S : amS) : EV (fun m n => g_123 n l1 S) (G_123 l1 S) := by
  unfold g_123 G_123
  exact ev_bV (ev_c) (fun _ => ev_bJ (ev_53 _ _) (fun _ _ => ev_ite (ev_c) (ev_bI (ev_c) (fun _ _ => ev_c))))
theorem fl_124 {n n' : Nat} (hn : n ≤ n') (l1 : Int32) (S : amS) : FL (g_124 n l1 S) (g_124 n' l1 S) := by
  unfold g_124
  exact fl_bV (fl_refl) (fun _ => fl_bJ (fl_53 hn _ _) (fun _ _ => fl_bI (fl_refl) (fun _ _ => fl_ite (fl_bI (fl_refl) (fun _ _ => fl_refl)) (fl_refl))))
noncomputable def G_124 (l1 : Int32) (S : amS) : amQ := az_bV (g_125 l1 S) fun S1 => az_bJ (G_53 l1 S1) fun x2 S3 => az_bI (g_112 x2 S3) fun x4 S5 => if x4 = 0 then az_bI (g_113 x2 S5) fun x6 S7 => some (.inl (some (.int x6)), S7) else some (.inl (some (.int 0)), S5)
theorem ev_124 (l1 : Int32) (S : amS) : EV (fun m n => g_124 n l1 S) (G_124 l1 S) := by
  unfold g_124 G_124
  exact ev_bV (ev_c) (fun _ => ev_bJ (ev_53 _ _) (fun _ _ => ev_bI (ev_c) (fun _ _ => ev_ite (ev_bI (ev_c) (fun _ _ => ev_c)) (ev_c))))
