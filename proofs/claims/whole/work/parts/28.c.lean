noncomputable def G_71_77 (k : Nat) (S : amS) : amQ := az_bI (g_2 7 0 ((-1)) S) fun x1 S2 => az_bV (G_5 S2) fun S3 => some (.inl none, S3)
theorem ev_71_77 (k : Nat) (S : amS) : EV (fun m n => g_71_77 (g_73 k m) n S) (G_71_77 k S) := by
  unfold g_71_77 G_71_77
  exact ev_bI (ev_c) (fun _ _ => ev_bV (ev_5 _) (fun _ => ev_c))
noncomputable def G_71_45 (k : Nat) (l1 : Int32) (S : amS) : amQ := az_lim (fun m n => g_71_45 (g_73 k m) n l1 S)
theorem ev_71_45 (k : Nat) (l1 : Int32) (S : amS) : EV (fun m n => g_71_45 (g_73 k m) n l1 S) (G_71_45 k l1 S) := ev_lim (fun m m' n n' hm hn => fl_71_45 hn (fun x S => fl_73 k hm x S) l1 S)
noncomputable def B_71_45 (k : Nat) (H45 : Int32 → amS → amQ) (l1 : Int32) (S : amS) : amQ := if 250 ≤ l1 then G_71_77 k S else az_bI (G_105 S) fun x1 S2 => if x1 = 0 then az_bV (g_83 S2) fun S3 => az_bV (G_73 k 0 S3) fun S4 => H45 (l1 + 1) S4 else G_71_77 k S2
theorem evB_71_45 (k : Nat) {N45 : Nat → Nat → Int32 → amS → amQ} {H45 : Int32 → amS → amQ} (hH45 : ∀ a0 S, EV (fun m n => N45 m n a0 S) (H45 a0 S)) (l1 : Int32) (S : amS) : EV (fun m n => h_71_45 (g_73 k m) n (N45 m n) l1 S) (B_71_45 k H45 l1 S) := by
  unfold h_71_45 B_71_45
  exact ev_ite (ev_71_77 k _) (ev_bI (ev_105 _) (fun _ _ => ev_ite (ev_bV (ev_c) (fun _ => ev_bV (ev_73 k _ _) (fun _ => hH45 _ _))) (ev_71_77 k _)))
theorem G_71_45_eq (k : Nat) (l1 : Int32) (S : amS) : G_71_45 k l1 S = B_71_45 k (G_71_45 k ) l1 S := ev_uniq (f := fun m n => g_71_45 (g_73 k m) (n + 1) l1 S) (ev_shift (ev_71_45 k l1 S)) (evB_71_45 k (N45 := fun m n => g_71_45 (g_73 k m) n) (fun a0 S => ev_71_45 k a0 S) l1 S)
noncomputable def G_71 (k : Nat) (S : amS) : amQ := az_bV (g_101 S) fun S1 => az_bV (g_1 S1) fun S2 => az_bV (g_55 S2) fun S3 => az_bV (g_8 S3) fun S4 => az_st (sI S4 23 4 0) fun S5 => az_st (sI S5 23 5 ((-1))) fun S6 => az_bV (G_73 k 0 S6) fun S7 => G_71_45 k 0 S7
theorem ev_71 (k : Nat) (S : amS) : EV (fun m n => g_71 (g_73 k m) n S) (G_71 k S) := by
  unfold g_71 G_71
  exact ev_bV (ev_c) (fun _ => ev_bV (ev_c) (fun _ => ev_bV (ev_c) (fun _ => ev_bV (ev_c) (fun _ => ev_st (fun _ => ev_st (fun _ => ev_bV (ev_73 k _ _) (fun _ => ev_71_45 k _ _)))))))
noncomputable def G_82_7 (k : Nat) (l1 : Int32) (l2 : Int32) (S : amS) : amQ := az_lim (fun m n => g_82_7 (g_73 k m) n l1 l2 S)
theorem ev_82_7 (k : Nat) (l1 : Int32) (l2 : Int32) (S : amS) : EV (fun m n => g_82_7 (g_73 k m) n l1 l2 S) (G_82_7 k l1 l2 S) := ev_lim (fun m m' n n' hm hn => fl_82_7 hn (fun x S => fl_73 k hm x S) l1 l2 S)
noncomputable def B_82_7 (k : Nat) (H7 : Int32 → Int32 → amS → amQ) (l1 : Int32) (l2 : Int32) (S : amS) : amQ := if 250 ≤ l2 then some (.inl none, S) else az_bI (G_104 S) fun x1 S2 => if x1 = 41 then some (.inl none, S2) else az_bV (g_83 S2) fun S3 => az_bV (G_73 k l1 S3) fun S4 => H7 l1 (l2 + 1) S4
theorem evB_82_7 (k : Nat) {N7 : Nat → Nat → Int32 → Int32 → amS → amQ} {H7 : Int32 → Int32 → amS → amQ} (hH7 : ∀ a0 a1 S, EV (fun m n => N7 m n a0 a1 S) (H7 a0 a1 S)) (l1 : Int32) (l2 : Int32) (S : amS) : EV (fun m n => h_82_7 (g_73 k m) n (N7 m n) l1 l2 S) (B_82_7 k H7 l1 l2 S) := by
  unfold h_82_7 B_82_7
  exact ev_ite (ev_c) (ev_bI (ev_104 _) (fun _ _ => ev_ite (ev_c) (ev_bV (ev_c) (fun _ => ev_bV (ev_73 k _ _) (fun _ => hH7 _ _ _)))))
theorem G_82_7_eq (k : Nat) (l1 : Int32) (l2 : Int32) (S : amS) : G_82_7 k l1 l2 S = B_82_7 k (G_82_7 k ) l1 l2 S := ev_uniq (f := fun m n => g_82_7 (g_73 k m) (n + 1) l1 l2 S) (ev_shift (ev_82_7 k l1 l2 S)) (evB_82_7 k (N7 := fun m n => g_82_7 (g_73 k m) n) (fun a0 a1 S => ev_82_7 k a0 a1 S) l1 l2 S)
noncomputable def G_82 (k : Nat) (l1 : Int32) (S : amS) : amQ := az_bV (G_73 k l1 S) fun S1 => G_82_7 k l1 0 S1
theorem ev_82 (k : Nat) (l1 : Int32) (S : amS) : EV (fun m n => g_82 (g_73 k m) n l1 S) (G_82 k l1 S) := by
  unfold g_82 G_82
  exact ev_bV (ev_73 k _ _) (fun _ => ev_82_7 k _ _ _)
noncomputable def G_85_46 (k : Nat) (l1 : Int32) (l2 : Int32) (l3 : Int32) (S : amS) : amQ := az_bV (G_81 41 S) fun S1 => az_st (S1.1 23 4) fun x2 => az_bI (g_2 5 (S1.1 12 7) l1 S1) fun x3 S4 => az_bV (g_9 (S4.1 1 3) ((S4.1 5 8) - l3) (S4.1 5 4) S4) fun S5 => az_bI (G_58 l3 0 (S5.1 12 9) S5) fun x6 S7 => az_st (sI S7 23 4 x6) fun S8 => az_st (S8.1 23 4) fun x9 => az_bV (G_82 k l2 S8) fun S10 => az_bI (g_2 16 0 ((-1)) S10) fun x11 S12 => az_bV (g_59 x9 S12) fun S13 => az_bV (g_10 (S13.1 1 3) S13) fun S14 => az_st (sI S14 23 4 (x2 + 1)) fun S15 => some (.inl none, S15)
theorem ev_85_46 (k : Nat) (l1 : Int32) (l2 : Int32) (l3 : Int32) (S : amS) : EV (fun m n => g_85_46 (g_73 k m) n l1 l2 l3 S) (G_85_46 k l1 l2 l3 S) := by
  unfold g_85_46 G_85_46
  exact ev_bV (ev_81 _ _) (fun _ => ev_st (fun _ => ev_bI (ev_c) (fun _ _ => ev_bV (ev_c) (fun _ => ev_bI (ev_58 _ _ _ _) (fun _ _ => ev_st (fun _ => ev_st (fun _ => ev_bV (ev_82 k _ _) (fun _ => ev_bI (ev_c) (fun _ _ => ev_bV (ev_c) (fun _ => ev_bV (ev_c) (fun _ => ev_st (fun _ => ev_c))))))))))))
noncomputable def G_85_17 (k : Nat) (l1 : Int32) (l2 : Int32) (l3 : Int32) (l4 : Int32) (S : amS) : amQ := az_lim (fun m n => g_85_17 (g_73 k m) n l1 l2 l3 l4 S)
theorem ev_85_17 (k : Nat) (l1 : Int32) (l2 : Int32) (l3 : Int32) (l4 : Int32) (S : amS) : EV (fun m n => g_85_17 (g_73 k m) n l1 l2 l3 l4 S) (G_85_17 k l1 l2 l3 l4 S) := ev_lim (fun m m' n n' hm hn => fl_85_17 hn (fun x S => fl_73 k hm x S) l1 l2 l3 l4 S)
noncomputable def B_85_17 (k : Nat) (H17 : Int32 → Int32 → Int32 → Int32 → amS → amQ) (l1 : Int32) (l2 : Int32) (l3 : Int32) (l4 : Int32) (S : amS) : amQ := if 4 ≤ l4 then G_85_46 k l1 l2 l3 S else az_bI (G_104 S) fun x1 S2 => if x1 = 41 then G_85_46 k l1 l2 l3 S2 else az_bV (G_84 l3 S2) fun S3 => H17 l1 l2 l3 (l4 + 1) S3
theorem evB_85_17 (k : Nat) {N17 : Nat → Nat → Int32 → Int32 → Int32 → Int32 → amS → amQ} {H17 : Int32 → Int32 → Int32 → Int32 → amS → amQ} (hH17 : ∀ a0 a1 a2 a3 S, EV (fun m n => N17 m n a0 a1 a2 a3 S) (H17 a0 a1 a2 a3 S)) (l1 : Int32) (l2 : Int32) (l3 : Int32) (l4 : Int32) (S : amS) : EV (fun m n => h_85_17 (g_73 k m) n (N17 m n) l1 l2 l3 l4 S) (B_85_17 k H17 l1 l2 l3 l4 S) := by
  unfold h_85_17 B_85_17
  exact ev_ite (ev_85_46 k _ _ _ _) (ev_bI (ev_104 _) (fun _ _ => ev_ite (ev_85_46 k _ _ _ _) (ev_bV (ev_84 _ _) (fun _ => hH17 _ _ _ _ _))))
theorem G_85_17_eq (k : Nat) (l1 : Int32) (l2 : Int32) (l3 : Int32) (l4 : Int32) (S : amS) : G_85_17 k l1 l2 l3 l4 S = B_85_17 k (G_85_17 k ) l1 l2 l3 l4 S := ev_uniq (f := fun m n => g_85_17 (g_73 k m) (n + 1) l1 l2 l3 l4 S) (ev_shift (ev_85_17 k l1 l2 l3 l4 S)) (evB_85_17 k (N17 := fun m n => g_85_17 (g_73 k m) n) (fun a0 a1 a2 a3 S => ev_85_17 k a0 a1 a2 a3 S) l1 l2 l3 l4 S)
noncomputable def G_85 (k : Nat) (l1 : Int32) (l2 : Int32) (S : amS) : amQ := az_st (S.1 5 8) fun x1 => az_bV (G_81 40 S) fun S2 => G_85_17 k l1 l2 x1 0 S2
theorem ev_85 (k : Nat) (l1 : Int32) (l2 : Int32) (S : amS) : EV (fun m n => g_85 (g_73 k m) n l1 l2 S) (G_85 k l1 l2 S) := by
  unfold g_85 G_85
  exact ev_st (fun _ => ev_bV (ev_81 _ _) (fun _ => ev_85_17 k _ _ _ _ _))
noncomputable def G_86 (k : Nat) (l1 : Int32) (l2 : Int32) (S : amS) : amQ := az_bI (g_2 1 0 l1 S) fun x1 S2 => az_bV (G_73 k l2 S2) fun S3 => az_bI (g_2 10 0 l1 S3) fun x4 S5 => az_st (sI S5 23 4 ((S5.1 23 4) - 1)) fun S6 => az_bV (G_73 k l2 S6) fun S7 => az_bI (g_2 9 0 l1 S7) fun x8 S9 => az_st (sI S9 23 4 ((S9.1 23 4) - 1)) fun S10 => az_bV (g_3 x4 S10) fun S11 => az_bV (G_73 k l2 S11) fun S12 => az_bV (g_3 x8 S12) fun S13 => some (.inl none, S13)
theorem ev_86 (k : Nat) (l1 : Int32) (l2 : Int32) (S : amS) : EV (fun m n => g_86 (g_73 k m) n l1 l2 S) (G_86 k l1 l2 S) := by
  unfold g_86 G_86
  exact ev_bI (ev_c) (fun _ _ => ev_bV (ev_73 k _ _) (fun _ => ev_bI (ev_c) (fun _ _ => ev_st (fun _ => ev_bV (ev_73 k _ _) (fun _ => ev_bI (ev_c) (fun _ _ => ev_st (fun _ => ev_bV (ev_c) (fun _ => ev_bV (ev_73 k _ _) (fun _ => ev_bV (ev_c) (fun _ => ev_c))))))))))
noncomputable def G_88 (k : Nat) (l1 : Int32) (l2 : Int32) (S : amS) : amQ := az_bV (G_81 40 S) fun S1 => az_bV (G_84 l1 S1) fun S2 => az_bV (G_73 k l2 S2) fun S3 => az_bV (G_81 41 S3) fun S4 => some (.inl none, S4)
theorem ev_88 (k : Nat) (l1 : Int32) (l2 : Int32) (S : amS) : EV (fun m n => g_88 (g_73 k m) n l1 l2 S) (G_88 k l1 l2 S) := by
  unfold g_88 G_88
  exact ev_bV (ev_81 _ _) (fun _ => ev_bV (ev_84 _ _) (fun _ => ev_bV (ev_73 k _ _) (fun _ => ev_bV (ev_81 _ _) (fun _ => ev_c))))
noncomputable def G_87_107 (k : Nat) (l1 : Int32) (l2 : Int32) (l5 : Int32) (l6 : Int32) (l7 : Int32) (S : amS) : amQ := az_lim (fun m n => g_87_107 (g_73 k m) n l1 l2 l5 l6 l7 S)
theorem ev_87_107 (k : Nat) (l1 : Int32) (l2 : Int32) (l5 : Int32) (l6 : Int32) (l7 : Int32) (S : amS) : EV (fun m n => g_87_107 (g_73 k m) n l1 l2 l5 l6 l7 S) (G_87_107 k l1 l2 l5 l6 l7 S) := ev_lim (fun m m' n n' hm hn => fl_87_107 hn (fun x S => fl_73 k hm x S) l1 l2 l5 l6 l7 S)
noncomputable def B_87_107 (k : Nat) (H107 : Int32 → Int32 → Int32 → Int32 → Int32 → amS → amQ) (l1 : Int32) (l2 : Int32) (l5 : Int32) (l6 : Int32) (l7 : Int32) (S : amS) : amQ := if l6 ≤ l7 then az_bV (G_82 k l2 S) fun S1 => az_bV (g_90 l6 S1) fun S2 => some (.inl none, S2) else az_bI (g_2 11 (l5 + l7) l1 S) fun x3 S4 => H107 l1 l2 l5 l6 (l7 + 1) S4
theorem evB_87_107 (k : Nat) {N107 : Nat → Nat → Int32 → Int32 → Int32 → Int32 → Int32 → amS → amQ} {H107 : Int32 → Int32 → Int32 → Int32 → Int32 → amS → amQ} (hH107 : ∀ a0 a1 a2 a3 a4 S, EV (fun m n => N107 m n a0 a1 a2 a3 a4 S) (H107 a0 a1 a2 a3 a4 S)) (l1 : Int32) (l2 : Int32) (l5 : Int32) (l6 : Int32) (l7 : Int32) (S : amS) : EV (fun m n => h_87_107 (g_73 k m) n (N107 m n) l1 l2 l5 l6 l7 S) (B_87_107 k H107 l1 l2 l5 l6 l7 S) := by
  unfold h_87_107 B_87_107
  exact ev_ite (ev_bV (ev_82 k _ _) (fun _ => ev_bV (ev_c) (fun _ => ev_c))) (ev_bI (ev_c) (fun _ _ => hH107 _ _ _ _ _ _))
theorem G_87_107_eq (k : Nat) (l1 : Int32) (l2 : Int32) (l5 : Int32) (l6 : Int32) (l7 : Int32) (S : amS) : G_87_107 k l1 l2 l5 l6 l7 S = B_87_107 k (G_87_107 k ) l1 l2 l5 l6 l7 S := ev_uniq (f := fun m n => g_87_107 (g_73 k m) (n + 1) l1 l2 l5 l6 l7 S) (ev_shift (ev_87_107 k l1 l2 l5 l6 l7 S)) (evB_87_107 k (N107 := fun m n => g_87_107 (g_73 k m) n) (fun a0 a1 a2 a3 a4 S => ev_87_107 k a0 a1 a2 a3 a4 S) l1 l2 l5 l6 l7 S)
noncomputable def G_87_70 (k : Nat) (l1 : Int32) (l2 : Int32) (l3 : Int32) (l4 : Int32) (S : amS) : amQ := az_bV (G_81 41 S) fun S1 => az_st (S1.1 5 4) fun x2 => az_bI (G_58 l3 l4 (S1.1 12 9) S1) fun x3 S4 => G_87_107 k l1 l2 x2 x3 0 S4
theorem ev_87_70 (k : Nat) (l1 : Int32) (l2 : Int32) (l3 : Int32) (l4 : Int32) (S : amS) : EV (fun m n => g_87_70 (g_73 k m) n l1 l2 l3 l4 S) (G_87_70 k l1 l2 l3 l4 S) := by
  unfold g_87_70 G_87_70
  exact ev_bV (ev_81 _ _) (fun _ => ev_st (fun _ => ev_bI (ev_58 _ _ _ _) (fun _ _ => ev_87_107 k _ _ _ _ _ _)))
noncomputable def G_87_40 (k : Nat) (l1 : Int32) (l2 : Int32) (l3 : Int32) (l4 : Int32) (l5 : Int32) (S : amS) : amQ := az_lim (fun m n => g_87_40 (g_73 k m) n l1 l2 l3 l4 l5 S)
theorem ev_87_40 (k : Nat) (l1 : Int32) (l2 : Int32) (l3 : Int32) (l4 : Int32) (l5 : Int32) (S : amS) : EV (fun m n => g_87_40 (g_73 k m) n l1 l2 l3 l4 l5 S) (G_87_40 k l1 l2 l3 l4 l5 S) := ev_lim (fun m m' n n' hm hn => fl_87_40 hn (fun x S => fl_73 k hm x S) l1 l2 l3 l4 l5 S)
noncomputable def B_87_40 (k : Nat) (H40 : Int32 → Int32 → Int32 → Int32 → Int32 → amS → amQ) (l1 : Int32) (l2 : Int32) (l3 : Int32) (l4 : Int32) (l5 : Int32) (S : amS) : amQ := if 4 ≤ l5 then G_87_70 k l1 l2 l3 l4 S else az_bI (G_104 S) fun x1 S2 => if x1 = 41 then G_87_70 k l1 l2 l3 l4 S2 else az_bV (G_88 k l3 l2 S2) fun S3 => H40 l1 l2 l3 l4 (l5 + 1) S3
theorem evB_87_40 (k : Nat) {N40 : Nat → Nat → Int32 → Int32 → Int32 → Int32 → Int32 → amS → amQ} {H40 : Int32 → Int32 → Int32 → Int32 → Int32 → amS → amQ} (hH40 : ∀ a0 a1 a2 a3 a4 S, EV (fun m n => N40 m n a0 a1 a2 a3 a4 S) (H40 a0 a1 a2 a3 a4 S)) (l1 : Int32) (l2 : Int32) (l3 : Int32) (l4 : Int32) (l5 : Int32) (S : amS) : EV (fun m n => h_87_40 (g_73 k m) n (N40 m n) l1 l2 l3 l4 l5 S) (B_87_40 k H40 l1 l2 l3 l4 l5 S) := by
  unfold h_87_40 B_87_40
  exact ev_ite (ev_87_70 k _ _ _ _ _) (ev_bI (ev_104 _) (fun _ _ => ev_ite (ev_87_70 k _ _ _ _ _) (ev_bV (ev_88 k _ _ _) (fun _ => hH40 _ _ _ _ _ _))))
theorem G_87_40_eq (k : Nat) (l1 : Int32) (l2 : Int32) (l3 : Int32) (l4 : Int32) (l5 : Int32) (S : amS) : G_87_40 k l1 l2 l3 l4 l5 S = B_87_40 k (G_87_40 k ) l1 l2 l3 l4 l5 S := ev_uniq (f := fun m n => g_87_40 (g_73 k m) (n + 1) l1 l2 l3 l4 l5 S) (ev_shift (ev_87_40 k l1 l2 l3 l4 l5 S)) (evB_87_40 k (N40 := fun m n => g_87_40 (g_73 k m) n) (fun a0 a1 a2 a3 a4 S => ev_87_40 k a0 a1 a2 a3 a4 S) l1 l2 l3 l4 l5 S)
noncomputable def G_87 (k : Nat) (l1 : Int32) (l2 : Int32) (S : amS) : amQ := az_bI (g_2 1 0 l1 S) fun x1 S2 => az_st (S2.1 5 8) fun x3 => az_st (S2.1 23 4) fun x4 => az_bV (G_81 40 S2) fun S5 => az_bV (G_88 k x3 l2 S5) fun S6 => G_87_40 k l1 l2 x3 x4 1 S6
theorem ev_87 (k : Nat) (l1 : Int32) (l2 : Int32) (S : amS) : EV (fun m n => g_87 (g_73 k m) n l1 l2 S) (G_87 k l1 l2 S) := by
  unfold g_87 G_87
  exact ev_bI (ev_c) (fun _ _ => ev_st (fun _ => ev_st (fun _ => ev_bV (ev_81 _ _) (fun _ => ev_bV (ev_88 k _ _ _) (fun _ => ev_87_40 k _ _ _ _ _ _)))))
noncomputable def G_89_104 (k : Nat) (l1 : Int32) (l2 : Int32) (l4 : Int32) (S : amS) : amQ := az_bV (G_81 41 S) fun S1 => az_bV (G_81 41 S1) fun S2 => az_bI (g_61 l4 S2) fun x3 S4 => az_bI (g_2 12 x3 l1 S4) fun x5 S6 => az_bV (g_83 S6) fun S7 => az_bV (G_82 k l2 S7) fun S8 => az_bV (g_90 1 S8) fun S9 => some (.inl none, S9)
theorem ev_89_104 (k : Nat) (l1 : Int32) (l2 : Int32) (l4 : Int32) (S : amS) : EV (fun m n => g_89_104 (g_73 k m) n l1 l2 l4 S) (G_89_104 k l1 l2 l4 S) := by
  unfold g_89_104 G_89_104
  exact ev_bV (ev_81 _ _) (fun _ => ev_bV (ev_81 _ _) (fun _ => ev_bI (ev_c) (fun _ _ => ev_bI (ev_c) (fun _ _ => ev_bV (ev_c) (fun _ => ev_bV (ev_82 k _ _) (fun _ => ev_bV (ev_c) (fun _ => ev_c)))))))
noncomputable def G_89 (k : Nat) (l1 : Int32) (l2 : Int32) (S : amS) : amQ := az_bV (G_81 40 S) fun S1 => az_bV (G_81 40 S1) fun S2 => az_st (S2.1 5 8) fun x3 => az_bV (G_84 x3 S2) fun S4 => az_st (S4.1 5 4) fun x5 => az_bI (G_58 x3 (S4.1 23 4) (S4.1 12 9) S4) fun x6 S7 => az_bV (g_74 6 0 l1 S7) fun S8 => az_bI (G_103 S8) fun x9 S10 => az_st (S10.1 1 3) fun x11 => az_bV (G_73 k l2 S10) fun S12 => az_bI (g_4 x11 S12) fun x13 S14 => if x13 = 5 then G_89_104 k l1 l2 x5 S14 else az_bV (g_72 x9 S14) fun S15 => G_89_104 k l1 l2 x5 S15
theorem ev_89 (k : Nat) (l1 : Int32) (l2 : Int32) (S : amS) : EV (fun m n => g_89 (g_73 k m) n l1 l2 S) (G_89 k l1 l2 S) := by
  unfold g_89 G_89
  exact ev_bV (ev_81 _ _) (fun _ => ev_bV (ev_81 _ _) (fun _ => ev_st (fun _ => ev_bV (ev_84 _ _) (fun _ => ev_st (fun _ => ev_bI (ev_58 _ _ _ _) (fun _ _ => ev_bV (ev_c) (fun _ => ev_bI (ev_103 _) (fun _ _ => ev_st (fun _ => ev_bV (ev_73 k _ _) (fun _ => ev_bI (ev_c) (fun _ _ => ev_ite (ev_89_104 k _ _ _ _) (ev_bV (ev_c) (fun _ => ev_89_104 k _ _ _ _)))))))))))))
noncomputable def G_91 (k : Nat) (l1 : Int32) (l2 : Int32) (S : amS) : amQ := az_bI (g_2 1 0 l1 S) fun x1 S2 => az_bI (G_77 S2) fun x3 S4 => az_bV (g_64 x3 1 S4) fun S5 => az_bI (g_62 x3 S5) fun x6 S7 => az_bI (g_61 x3 S7) fun x8 S9 => az_bI (G_11 x3 x6 x8 S9) fun x10 S11 => az_bV (G_73 k l2 S11) fun S12 => az_bI (g_2 12 x10 l1 S12) fun x13 S14 => some (.inl none, S14)
theorem ev_91 (k : Nat) (l1 : Int32) (l2 : Int32) (S : amS) : EV (fun m n => g_91 (g_73 k m) n l1 l2 S) (G_91 k l1 l2 S) := by
  unfold g_91 G_91
  exact ev_bI (ev_c) (fun _ _ => ev_bI (ev_77 _) (fun _ _ => ev_bV (ev_c) (fun _ => ev_bI (ev_c) (fun _ _ => ev_bI (ev_c) (fun _ _ => ev_bI (ev_11 _ _ _ _) (fun _ _ => ev_bV (ev_73 k _ _) (fun _ => ev_bI (ev_c) (fun _ _ => ev_c))))))))
noncomputable def G_92_14 (k : Nat) (l1 : Nat) (l2 : Int32) (l3 : Int32) (l4 : Int32) (S : amS) : amQ := az_lim (fun m n => g_92_14 (g_73 k m) n l1 l2 l3 l4 S)
theorem ev_92_14 (k : Nat) (l1 : Nat) (l2 : Int32) (l3 : Int32) (l4 : Int32) (S : amS) : EV (fun m n => g_92_14 (g_73 k m) n l1 l2 l3 l4 S) (G_92_14 k l1 l2 l3 l4 S) := ev_lim (fun m m' n n' hm hn => fl_92_14 hn (fun x S => fl_73 k hm x S) l1 l2 l3 l4 S)
noncomputable def B_92_14 (k : Nat) (H14 : Nat → Int32 → Int32 → Int32 → amS → amQ) (l1 : Nat) (l2 : Int32) (l3 : Int32) (l4 : Int32) (S : amS) : amQ := az_if (1000 ≤ l1 ∧ l1 < 1019) (if (am_opn.getD (l1 - 1000) 0) ≤ l4 then az_if (1000 ≤ l1 ∧ l1 < 1019) (az_bI (g_2 (am_ord.getD (l1 - 1000) 0) 0 l2 S) fun x1 S2 => az_if (1000 ≤ l1 ∧ l1 < 1019) (az_st (sI S2 23 4 ((S2.1 23 4) - ((am_opn.getD (l1 - 1000) 0) - 1))) fun S3 => some (.inl none, S3))) else az_bV (G_73 k l3 S) fun S4 => H14 l1 l2 l3 (l4 + 1) S4)
theorem evB_92_14 (k : Nat) {N14 : Nat → Nat → Nat → Int32 → Int32 → Int32 → amS → amQ} {H14 : Nat → Int32 → Int32 → Int32 → amS → amQ} (hH14 : ∀ a0 a1 a2 a3 S, EV (fun m n => N14 m n a0 a1 a2 a3 S) (H14 a0 a1 a2 a3 S)) (l1 : Nat) (l2 : Int32) (l3 : Int32) (l4 : Int32) (S : amS) : EV (fun m n => h_92_14 (g_73 k m) n (N14 m n) l1 l2 l3 l4 S) (B_92_14 k H14 l1 l2 l3 l4 S) := by
  unfold h_92_14 B_92_14
  exact ev_if (ev_ite (ev_if (ev_bI (ev_c) (fun _ _ => ev_if (ev_st (fun _ => ev_c))))) (ev_bV (ev_73 k _ _) (fun _ => hH14 _ _ _ _ _)))
theorem G_92_14_eq (k : Nat) (l1 : Nat) (l2 : Int32) (l3 : Int32) (l4 : Int32) (S : amS) : G_92_14 k l1 l2 l3 l4 S = B_92_14 k (G_92_14 k ) l1 l2 l3 l4 S := ev_uniq (f := fun m n => g_92_14 (g_73 k m) (n + 1) l1 l2 l3 l4 S) (ev_shift (ev_92_14 k l1 l2 l3 l4 S)) (evB_92_14 k (N14 := fun m n => g_92_14 (g_73 k m) n) (fun a0 a1 a2 a3 S => ev_92_14 k a0 a1 a2 a3 S) l1 l2 l3 l4 S)
noncomputable def G_92 (k : Nat) (l1 : Nat) (l2 : Int32) (l3 : Int32) (S : amS) : amQ := az_bI (g_2 1 0 l2 S) fun x1 S2 => G_92_14 k l1 l2 l3 0 S2
theorem ev_92 (k : Nat) (l1 : Nat) (l2 : Int32) (l3 : Int32) (S : amS) : EV (fun m n => g_92 (g_73 k m) n l1 l2 l3 S) (G_92 k l1 l2 l3 S) := by
  unfold g_92 G_92
  exact ev_bI (ev_c) (fun _ _ => ev_92_14 k _ _ _ _ _)
noncomputable def G_80 (k : Nat) (l1 : Nat) (l2 : Int32) (l3 : Int32) (S : amS) : amQ := az_if (1000 ≤ l1 ∧ l1 < 1019) (az_ck (Int32.ofNat (l1 - 1000)) 19 (az_st (am_sw.getD (Int32.ofNat (l1 - 1000)).toNatClampNeg 0) fun x1 => if x1 = 1 then (az_bV (G_85 k l2 l3 S) fun S2 => some (.inl none, S2)) else if x1 = 2 then (az_bV (G_86 k l2 l3 S) fun S3 => some (.inl none, S3)) else if x1 = 3 then (az_bV (G_87 k l2 l3 S) fun S4 => some (.inl none, S4)) else if x1 = 4 then (az_bV (G_89 k l2 l3 S) fun S5 => some (.inl none, S5)) else if x1 = 5 then (az_bV (G_91 k l2 l3 S) fun S6 => some (.inl none, S6)) else if x1 = 6 then (az_bI (g_2 1 0 l2 S) fun x7 S8 => az_bV (G_82 k l3 S8) fun S9 => some (.inl none, S9)) else az_bV (G_92 k l1 l2 l3 S) fun S10 => some (.inl none, S10)))
theorem ev_80 (k : Nat) (l1 : Nat) (l2 : Int32) (l3 : Int32) (S : amS) : EV (fun m n => g_80 (g_73 k m) n l1 l2 l3 S) (G_80 k l1 l2 l3 S) := by
  unfold g_80 G_80
  exact ev_if (ev_ck (ev_st (fun _ => ev_ite (ev_bV (ev_85 k _ _ _) (fun _ => ev_c)) (ev_ite (ev_bV (ev_86 k _ _ _) (fun _ => ev_c)) (ev_ite (ev_bV (ev_87 k _ _ _) (fun _ => ev_c)) (ev_ite (ev_bV (ev_89 k _ _ _) (fun _ => ev_c)) (ev_ite (ev_bV (ev_91 k _ _ _) (fun _ => ev_c)) (ev_ite (ev_bI (ev_c) (fun _ _ => ev_bV (ev_82 k _ _) (fun _ => ev_c))) (ev_bV (ev_92 k _ _ _ _) (fun _ => ev_c))))))))))
noncomputable def G_93_65 (k : Nat) (l1 : Int32) (l3 : Int32) (S : amS) : amQ := az_bI (g_2 14 l3 l1 S) fun x1 S2 => az_st (sI S2 23 4 ((S2.1 23 4) - l3)) fun S3 => some (.inl none, S3)
theorem ev_93_65 (k : Nat) (l1 : Int32) (l3 : Int32) (S : amS) : EV (fun m n => g_93_65 (g_73 k m) n l1 l3 S) (G_93_65 k l1 l3 S) := by
  unfold g_93_65 G_93_65
  exact ev_bI (ev_c) (fun _ _ => ev_st (fun _ => ev_c))
noncomputable def G_93_37 (k : Nat) (l1 : Int32) (l2 : Int32) (l3 : Int32) (S : amS) : amQ := az_lim (fun m n => g_93_37 (g_73 k m) n l1 l2 l3 S)
theorem ev_93_37 (k : Nat) (l1 : Int32) (l2 : Int32) (l3 : Int32) (S : amS) : EV (fun m n => g_93_37 (g_73 k m) n l1 l2 l3 S) (G_93_37 k l1 l2 l3 S) := ev_lim (fun m m' n n' hm hn => fl_93_37 hn (fun x S => fl_73 k hm x S) l1 l2 l3 S)
noncomputable def B_93_37 (k : Nat) (H37 : Int32 → Int32 → Int32 → amS → amQ) (l1 : Int32) (l2 : Int32) (l3 : Int32) (S : amS) : amQ := if 4 ≤ l3 then G_93_65 k l1 l3 S else az_bI (G_104 S) fun x1 S2 => if x1 = 41 then G_93_65 k l1 l3 S2 else az_bV (G_73 k l2 S2) fun S3 => H37 l1 l2 (l3 + 1) S3
theorem evB_93_37 (k : Nat) {N37 : Nat → Nat → Int32 → Int32 → Int32 → amS → amQ} {H37 : Int32 → Int32 → Int32 → amS → amQ} (hH37 : ∀ a0 a1 a2 S, EV (fun m n => N37 m n a0 a1 a2 S) (H37 a0 a1 a2 S)) (l1 : Int32) (l2 : Int32) (l3 : Int32) (S : amS) : EV (fun m n => h_93_37 (g_73 k m) n (N37 m n) l1 l2 l3 S) (B_93_37 k H37 l1 l2 l3 S) := by
  unfold h_93_37 B_93_37
  exact ev_ite (ev_93_65 k _ _ _) (ev_bI (ev_104 _) (fun _ _ => ev_ite (ev_93_65 k _ _ _) (ev_bV (ev_73 k _ _) (fun _ => hH37 _ _ _ _))))
theorem G_93_37_eq (k : Nat) (l1 : Int32) (l2 : Int32) (l3 : Int32) (S : amS) : G_93_37 k l1 l2 l3 S = B_93_37 k (G_93_37 k ) l1 l2 l3 S := ev_uniq (f := fun m n => g_93_37 (g_73 k m) (n + 1) l1 l2 l3 S) (ev_shift (ev_93_37 k l1 l2 l3 S)) (evB_93_37 k (N37 := fun m n => g_93_37 (g_73 k m) n) (fun a0 a1 a2 S => ev_93_37 k a0 a1 a2 S) l1 l2 l3 S)
noncomputable def G_93_35 (k : Nat) (l1 : Int32) (l2 : Int32) (S : amS) : amQ := G_93_37 k l1 l2 0 S
theorem ev_93_35 (k : Nat) (l1 : Int32) (l2 : Int32) (S : amS) : EV (fun m n => g_93_35 (g_73 k m) n l1 l2 S) (G_93_35 k l1 l2 S) := by
  unfold g_93_35 G_93_35
  exact ev_93_37 k _ _ _ _
noncomputable def G_93 (k : Nat) (l1 : Int32) (l2 : Int32) (S : amS) : amQ := az_bI (g_2 1 0 l1 S) fun x1 S2 => az_bI (G_104 S2) fun x3 S4 => if x3 = 40 then az_bV (G_73 k l2 S4) fun S6 => G_93_35 k l1 l2 S6 else az_bV (G_76 S4) fun S5 => G_93_35 k l1 l2 S5
theorem ev_93 (k : Nat) (l1 : Int32) (l2 : Int32) (S : amS) : EV (fun m n => g_93 (g_73 k m) n l1 l2 S) (G_93 k l1 l2 S) := by
  unfold g_93 G_93
  exact ev_bI (ev_c) (fun _ _ => ev_bI (ev_104 _) (fun _ _ => ev_ite (ev_bV (ev_73 k _ _) (fun _ => ev_93_35 k _ _ _)) (ev_bV (ev_76 _) (fun _ => ev_93_35 k _ _ _))))
noncomputable def G_78_76 (k : Nat) (S : amS) : amQ := az_bV (G_81 41 S) fun S1 => some (.inl none, S1)
theorem ev_78_76 (k : Nat) (S : amS) : EV (fun m n => g_78_76 (g_73 k m) n S) (G_78_76 k S) := by
  unfold g_78_76 G_78_76
  exact ev_bV (ev_81 _ _) (fun _ => ev_c)
noncomputable def G_78_11 (k : Nat) (l1 : Int32) (l2 : Int32) (S : amS) : amQ := az_st (sI S 21 3 ((S.1 21 3) + 1)) fun S1 => az_bI (G_103 S1) fun x2 S3 => az_bW (G_79 S3) (fun x4 S5 => az_if (1000 ≤ x4 ∧ x4 < 1019) (az_if (1100 ≤ (x4 + 100) ∧ (x4 + 100) < 1120) (az_st (sI S5 21 3 ((S5.1 21 3) + (Int32.ofNat (am_tx.getD ((x4 + 100) - 1100) []).length))) fun S6 => az_bV (G_80 k x4 l1 l2 S6) fun S7 => G_78_76 k S7))) (fun S5 => az_bV (G_93 k l1 l2 S5) fun S8 => G_78_76 k S8)
theorem ev_78_11 (k : Nat) (l1 : Int32) (l2 : Int32) (S : amS) : EV (fun m n => g_78_11 (g_73 k m) n l1 l2 S) (G_78_11 k l1 l2 S) := by
  unfold g_78_11 G_78_11
  exact ev_st (fun _ => ev_bI (ev_103 _) (fun _ _ => ev_bW (ev_79 _) (fun _ _ => ev_if (ev_if (ev_st (fun _ => ev_bV (ev_80 k _ _ _ _) (fun _ => ev_78_76 k _))))) (fun _ => ev_bV (ev_93 k _ _ _) (fun _ => ev_78_76 k _))))
noncomputable def G_78 (k : Nat) (l1 : Int32) (l2 : Int32) (S : amS) : amQ := if l2 ≤ 20 then G_78_11 k l1 l2 S else az_bV (g_72 l1 S) fun S1 => G_78_11 k l1 l2 S1
theorem ev_78 (k : Nat) (l1 : Int32) (l2 : Int32) (S : amS) : EV (fun m n => g_78 (g_73 k m) n l1 l2 S) (G_78 k l1 l2 S) := by
  unfold g_78 G_78
  exact ev_ite (ev_78_11 k _ _ _) (ev_bV (ev_c) (fun _ => ev_78_11 k _ _ _))
noncomputable def G_b73 (k : Nat) (l1 : Int32) (S : amS) : amQ := az_bI (G_103 S) fun x1 S2 => az_bI (G_104 S2) fun x3 S4 => if x3 = 40 then az_bV (G_78 k x1 (l1 + 1) S4) fun S15 => some (.inl none, S15) else az_bI (g_106 S4) fun x5 S6 => if x5 = 0 then az_bI (G_107 1119 S6) fun x7 S8 => if x7 = 0 then az_bV (G_76 S8) fun S9 => some (.inl none, S9) else az_st (sI S8 21 3 ((S8.1 21 3) + 3)) fun S10 => az_bV (g_74 3 0 x1 S10) fun S11 => some (.inl none, S11) else az_bI (G_75 S6) fun x12 S13 => az_bV (g_74 2 x12 x1 S13) fun S14 => some (.inl none, S14)
theorem ev_b73 (k : Nat) (l1 : Int32) (S : amS) : EV (fun m n => b_73 (g_73 k m) n l1 S) (G_b73 k l1 S) := by
  unfold b_73 G_b73
  exact ev_bI (ev_103 _) (fun _ _ => ev_bI (ev_104 _) (fun _ _ => ev_ite (ev_bV (ev_78 k _ _ _) (fun _ => ev_c)) (ev_bI (ev_c) (fun _ _ => ev_ite (ev_bI (ev_107 _ _) (fun _ _ => ev_ite (ev_bV (ev_76 _) (fun _ => ev_c)) (ev_st (fun _ => ev_bV (ev_c) (fun _ => ev_c))))) (ev_bI (ev_75 _) (fun _ _ => ev_bV (ev_c) (fun _ => ev_c)))))))
noncomputable def G_117 (k : Nat) (S : amS) : amQ := az_bV (g_30 S) fun S1 => az_bV (G_71 k S1) fun S2 => az_bV (g_31 S2) fun S3 => some (.inl none, S3)
theorem ev_117 (k : Nat) (S : amS) : EV (fun m n => g_117 (g_73 k m) n S) (G_117 k S) := by
  unfold g_117 G_117
  exact ev_bV (ev_c) (fun _ => ev_bV (ev_71 k _) (fun _ => ev_bV (ev_c) (fun _ => ev_c)))
theorem G_73_zero (x : Int32) (S : amS) : G_73 0 x S = none := ev_uniq (ev_73 0 x S) ev_c
theorem G_73_eq (k : Nat) (x : Int32) (S : amS) : G_73 (k + 1) x S = G_b73 k x S := ev_uniq (f := fun _ n => b_73 (g_73 k n) n x S) (ev_diag (ev_73 (k + 1) x S)) (ev_diag (ev_b73 k x S))
