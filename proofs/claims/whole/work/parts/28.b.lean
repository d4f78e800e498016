theorem fl_71_77 {n n' : Nat} (hn : n ≤ n') {E E' : Int32 → amS → amQ} (hE : ∀ x S, FL (E x S) (E' x S)) (S : amS) : FL (g_71_77 E n S) (g_71_77 E' n' S) := by
  unfold g_71_77
  exact fl_bI (fl_refl) (fun _ _ => fl_bV (fl_5 hn _) (fun _ => fl_refl))
theorem flh_71_45 {n n' : Nat} (hn : n ≤ n') {E E' : Int32 → amS → amQ} (hE : ∀ x S, FL (E x S) (E' x S)) {H45 H45' : Int32 → amS → amQ} (hH45 : ∀ a0 S, FL (H45 a0 S) (H45' a0 S)) (l1 : Int32) (S : amS) : FL (h_71_45 E n H45 l1 S) (h_71_45 E' n' H45' l1 S) := by
  unfold h_71_45
  exact fl_ite (fl_71_77 hn hE _) (fl_bI (fl_105 hn _) (fun _ _ => fl_ite (fl_bV (fl_refl) (fun _ => fl_bV (hE _ _) (fun _ => hH45 _ _))) (fl_71_77 hn hE _)))
theorem fl_71_45 : ∀ {n n' : Nat} (hn : n ≤ n') {E E' : Int32 → amS → amQ} (hE : ∀ x S, FL (E x S) (E' x S)) (l1 : Int32) (S : amS), FL (g_71_45 E n l1 S) (g_71_45 E' n' l1 S)
  | 0, _, _, _, _, _, _, _ => fl_none
  | n + 1, 0, h, _, _, _, _, _ => absurd h (Nat.not_succ_le_zero n)
  | n + 1, n' + 1, h, _, _, hE, l1, S => flh_71_45 (Nat.le_of_succ_le_succ h) hE (fun a0 S => fl_71_45 (Nat.le_of_succ_le_succ h) hE a0 S) l1 S
theorem fl_71 {n n' : Nat} (hn : n ≤ n') {E E' : Int32 → amS → amQ} (hE : ∀ x S, FL (E x S) (E' x S)) (S : amS) : FL (g_71 E n S) (g_71 E' n' S) := by
  unfold g_71
  exact fl_bV (fl_refl) (fun _ => fl_bV (fl_refl) (fun _ => fl_bV (fl_refl) (fun _ => fl_bV (fl_refl) (fun _ => fl_st (fun _ => fl_st (fun _ => fl_bV (hE _ _) (fun _ => fl_71_45 hn hE _ _)))))))
theorem flh_82_7 {n n' : Nat} (hn : n ≤ n') {E E' : Int32 → amS → amQ} (hE : ∀ x S, FL (E x S) (E' x S)) {H7 H7' : Int32 → Int32 → amS → amQ} (hH7 : ∀ a0 a1 S, FL (H7 a0 a1 S) (H7' a0 a1 S)) (l1 : Int32) (l2 : Int32) (S : amS) : FL (h_82_7 E n H7 l1 l2 S) (h_82_7 E' n' H7' l1 l2 S) := by
  unfold h_82_7
  exact fl_ite (fl_refl) (fl_bI (fl_104 hn _) (fun _ _ => fl_ite (fl_refl) (fl_bV (fl_refl) (fun _ => fl_bV (hE _ _) (fun _ => hH7 _ _ _)))))
theorem fl_82_7 : ∀ {n n' : Nat} (hn : n ≤ n') {E E' : Int32 → amS → amQ} (hE : ∀ x S, FL (E x S) (E' x S)) (l1 : Int32) (l2 : Int32) (S : amS), FL (g_82_7 E n l1 l2 S) (g_82_7 E' n' l1 l2 S)
  | 0, _, _, _, _, _, _, _, _ => fl_none
  | n + 1, 0, h, _, _, _, _, _, _ => absurd h (Nat.not_succ_le_zero n)
  | n + 1, n' + 1, h, _, _, hE, l1, l2, S => flh_82_7 (Nat.le_of_succ_le_succ h) hE (fun a0 a1 S => fl_82_7 (Nat.le_of_succ_le_succ h) hE a0 a1 S) l1 l2 S
theorem fl_82 {n n' : Nat} (hn : n ≤ n') {E E' : Int32 → amS → amQ} (hE : ∀ x S, FL (E x S) (E' x S)) (l1 : Int32) (S : amS) : FL (g_82 E n l1 S) (g_82 E' n' l1 S) := by
  unfold g_82
  exact fl_bV (hE _ _) (fun _ => fl_82_7 hn hE _ _ _)
theorem fl_85_46 {n n' : Nat} (hn : n ≤ n') {E E' : Int32 → amS → amQ} (hE : ∀ x S, FL (E x S) (E' x S)) (l1 : Int32) (l2 : Int32) (l3 : Int32) (S : amS) : FL (g_85_46 E n l1 l2 l3 S) (g_85_46 E' n' l1 l2 l3 S) := by
  unfold g_85_46
  exact fl_bV (fl_81 hn _ _) (fun _ => fl_st (fun _ => fl_bI (fl_refl) (fun _ _ => fl_bV (fl_refl) (fun _ => fl_bI (fl_58 hn _ _ _ _) (fun _ _ => fl_st (fun _ => fl_st (fun _ => fl_bV (fl_82 hn hE _ _) (fun _ => fl_bI (fl_refl) (fun _ _ => fl_bV (fl_refl) (fun _ => fl_bV (fl_refl) (fun _ => fl_st (fun _ => fl_refl))))))))))))
theorem flh_85_17 {n n' : Nat} (hn : n ≤ n') {E E' : Int32 → amS → amQ} (hE : ∀ x S, FL (E x S) (E' x S)) {H17 H17' : Int32 → Int32 → Int32 → Int32 → amS → amQ} (hH17 : ∀ a0 a1 a2 a3 S, FL (H17 a0 a1 a2 a3 S) (H17' a0 a1 a2 a3 S)) (l1 : Int32) (l2 : Int32) (l3 : Int32) (l4 : Int32) (S : amS) : FL (h_85_17 E n H17 l1 l2 l3 l4 S) (h_85_17 E' n' H17' l1 l2 l3 l4 S) := by
  unfold h_85_17
  exact fl_ite (fl_85_46 hn hE _ _ _ _) (fl_bI (fl_104 hn _) (fun _ _ => fl_ite (fl_85_46 hn hE _ _ _ _) (fl_bV (fl_84 hn _ _) (fun _ => hH17 _ _ _ _ _))))
theorem fl_85_17 : ∀ {n n' : Nat} (hn : n ≤ n') {E E' : Int32 → amS → amQ} (hE : ∀ x S, FL (E x S) (E' x S)) (l1 : Int32) (l2 : Int32) (l3 : Int32) (l4 : Int32) (S : amS), FL (g_85_17 E n l1 l2 l3 l4 S) (g_85_17 E' n' l1 l2 l3 l4 S)
  | 0, _, _, _, _, _, _, _, _, _, _ => fl_none
  | n + 1, 0, h, _, _, _, _, _, _, _, _ => absurd h (Nat.not_succ_le_zero n)
  | n + 1, n' + 1, h, _, _, hE, l1, l2, l3, l4, S => flh_85_17 (Nat.le_of_succ_le_succ h) hE (fun a0 a1 a2 a3 S => fl_85_17 (Nat.le_of_succ_le_succ h) hE a0 a1 a2 a3 S) l1 l2 l3 l4 S
theorem fl_85 {n n' : Nat} (hn : n ≤ n') {E E' : Int32 → amS → amQ} (hE : ∀ x S, FL (E x S) (E' x S)) (l1 : Int32) (l2 : Int32) (S : amS) : FL (g_85 E n l1 l2 S) (g_85 E' n' l1 l2 S) := by
  unfold g_85
  exact fl_st (fun _ => fl_bV (fl_81 hn _ _) (fun _ => fl_85_17 hn hE _ _ _ _ _))
theorem fl_86 {n n' : Nat} (hn : n ≤ n') {E E' : Int32 → amS → amQ} (hE : ∀ x S, FL (E x S) (E' x S)) (l1 : Int32) (l2 : Int32) (S : amS) : FL (g_86 E n l1 l2 S) (g_86 E' n' l1 l2 S) := by
  unfold g_86
  exact fl_bI (fl_refl) (fun _ _ => fl_bV (hE _ _) (fun _ => fl_bI (fl_refl) (fun _ _ => fl_st (fun _ => fl_bV (hE _ _) (fun _ => fl_bI (fl_refl) (fun _ _ => fl_st (fun _ => fl_bV (fl_refl) (fun _ => fl_bV (hE _ _) (fun _ => fl_bV (fl_refl) (fun _ => fl_refl))))))))))
theorem fl_88 {n n' : Nat} (hn : n ≤ n') {E E' : Int32 → amS → amQ} (hE : ∀ x S, FL (E x S) (E' x S)) (l1 : Int32) (l2 : Int32) (S : amS) : FL (g_88 E n l1 l2 S) (g_88 E' n' l1 l2 S) := by
  unfold g_88
  exact fl_bV (fl_81 hn _ _) (fun _ => fl_bV (fl_84 hn _ _) (fun _ => fl_bV (hE _ _) (fun _ => fl_bV (fl_81 hn _ _) (fun _ => fl_refl))))
theorem flh_87_107 {n n' : Nat} (hn : n ≤ n') {E E' : Int32 → amS → amQ} (hE : ∀ x S, FL (E x S) (E' x S)) {H107 H107' : Int32 → Int32 → Int32 → Int32 → Int32 → amS → amQ} (hH107 : ∀ a0 a1 a2 a3 a4 S, FL (H107 a0 a1 a2 a3 a4 S) (H107' a0 a1 a2 a3 a4 S)) (l1 : Int32) (l2 : Int32) (l5 : Int32) (l6 : Int32) (l7 : Int32) (S : amS) : FL (h_87_107 E n H107 l1 l2 l5 l6 l7 S) (h_87_107 E' n' H107' l1 l2 l5 l6 l7 S) := by
  unfold h_87_107
  exact fl_ite (fl_bV (fl_82 hn hE _ _) (fun _ => fl_bV (fl_refl) (fun _ => fl_refl))) (fl_bI (fl_refl) (fun _ _ => hH107 _ _ _ _ _ _))
theorem fl_87_107 : ∀ {n n' : Nat} (hn : n ≤ n') {E E' : Int32 → amS → amQ} (hE : ∀ x S, FL (E x S) (E' x S)) (l1 : Int32) (l2 : Int32) (l5 : Int32) (l6 : Int32) (l7 : Int32) (S : amS), FL (g_87_107 E n l1 l2 l5 l6 l7 S) (g_87_107 E' n' l1 l2 l5 l6 l7 S)
  | 0, _, _, _, _, _, _, _, _, _, _, _ => fl_none
  | n + 1, 0, h, _, _, _, _, _, _, _, _, _ => absurd h (Nat.not_succ_le_zero n)
  | n + 1, n' + 1, h, _, _, hE, l1, l2, l5, l6, l7, S => flh_87_107 (Nat.le_of_succ_le_succ h) hE (fun a0 a1 a2 a3 a4 S => fl_87_107 (Nat.le_of_succ_le_succ h) hE a0 a1 a2 a3 a4 S) l1 l2 l5 l6 l7 S
theorem fl_87_70 {n n' : Nat} (hn : n ≤ n') {E E' : Int32 → amS → amQ} (hE : ∀ x S, FL (E x S) (E' x S)) (l1 : Int32) (l2 : Int32) (l3 : Int32) (l4 : Int32) (S : amS) : FL (g_87_70 E n l1 l2 l3 l4 S) (g_87_70 E' n' l1 l2 l3 l4 S) := by
  unfold g_87_70
  exact fl_bV (fl_81 hn _ _) (fun _ => fl_st (fun _ => fl_bI (fl_58 hn _ _ _ _) (fun _ _ => fl_87_107 hn hE _ _ _ _ _ _)))
theorem flh_87_40 {n n' : Nat} (hn : n ≤ n') {E E' : Int32 → amS → amQ} (hE : ∀ x S, FL (E x S) (E' x S)) {H40 H40' : Int32 → Int32 → Int32 → Int32 → Int32 → amS → amQ} (hH40 : ∀ a0 a1 a2 a3 a4 S, FL (H40 a0 a1 a2 a3 a4 S) (H40' a0 a1 a2 a3 a4 S)) (l1 : Int32) (l2 : Int32) (l3 : Int32) (l4 : Int32) (l5 : Int32) (S : amS) : FL (h_87_40 E n H40 l1 l2 l3 l4 l5 S) (h_87_40 E' n' H40' l1 l2 l3 l4 l5 S) := by
  unfold h_87_40
  exact fl_ite (fl_87_70 hn hE _ _ _ _ _) (fl_bI (fl_104 hn _) (fun _ _ => fl_ite (fl_87_70 hn hE _ _ _ _ _) (fl_bV (fl_88 hn hE _ _ _) (fun _ => hH40 _ _ _ _ _ _))))
theorem fl_87_40 : ∀ {n n' : Nat} (hn : n ≤ n') {E E' : Int32 → amS → amQ} (hE : ∀ x S, FL (E x S) (E' x S)) (l1 : Int32) (l2 : Int32) (l3 : Int32) (l4 : Int32) (l5 : Int32) (S : amS), FL (g_87_40 E n l1 l2 l3 l4 l5 S) (g_87_40 E' n' l1 l2 l3 l4 l5 S)
  | 0, _, _, _, _, _, _, _, _, _, _, _ => fl_none
  | n + 1, 0, h, _, _, _, _, _, _, _, _, _ => absurd h (Nat.not_succ_le_zero n)
  | n + 1, n' + 1, h, _, _, hE, l1, l2, l3, l4, l5, S => flh_87_40 (Nat.le_of_succ_le_succ h) hE (fun a0 a1 a2 a3 a4 S => fl_87_40 (Nat.le_of_succ_le_succ h) hE a0 a1 a2 a3 a4 S) l1 l2 l3 l4 l5 S
theorem fl_87 {n n' : Nat} (hn : n ≤ n') {E E' : Int32 → amS → amQ} (hE : ∀ x S, FL (E x S) (E' x S)) (l1 : Int32) (l2 : Int32) (S : amS) : FL (g_87 E n l1 l2 S) (g_87 E' n' l1 l2 S) := by
  unfold g_87
  exact fl_bI (fl_refl) (fun _ _ => fl_st (fun _ => fl_st (fun _ => fl_bV (fl_81 hn _ _) (fun _ => fl_bV (fl_88 hn hE _ _ _) (fun _ => fl_87_40 hn hE _ _ _ _ _ _)))))
theorem fl_89_104 {n n' : Nat} (hn : n ≤ n') {E E' : Int32 → amS → amQ} (hE : ∀ x S, FL (E x S) (E' x S)) (l1 : Int32) (l2 : Int32) (l4 : Int32) (S : amS) : FL (g_89_104 E n l1 l2 l4 S) (g_89_104 E' n' l1 l2 l4 S) := by
  unfold g_89_104
  exact fl_bV (fl_81 hn _ _) (fun _ => fl_bV (fl_81 hn _ _) (fun _ => fl_bI (fl_refl) (fun _ _ => fl_bI (fl_refl) (fun _ _ => fl_bV (fl_refl) (fun _ => fl_bV (fl_82 hn hE _ _) (fun _ => fl_bV (fl_refl) (fun _ => fl_refl)))))))
theorem fl_89 {n n' : Nat} (hn : n ≤ n') {E E' : Int32 → amS → amQ} (hE : ∀ x S, FL (E x S) (E' x S)) (l1 : Int32) (l2 : Int32) (S : amS) : FL (g_89 E n l1 l2 S) (g_89 E' n' l1 l2 S) := by
  unfold g_89
  exact fl_bV (fl_81 hn _ _) (fun _ => fl_bV (fl_81 hn _ _) (fun _ => fl_st (fun _ => fl_bV (fl_84 hn _ _) (fun _ => fl_st (fun _ => fl_bI (fl_58 hn _ _ _ _) (fun _ _ => fl_bV (fl_refl) (fun _ => fl_bI (fl_103 hn _) (fun _ _ => fl_st (fun _ => fl_bV (hE _ _) (fun _ => fl_bI (fl_refl) (fun _ _ => fl_ite (fl_89_104 hn hE _ _ _ _) (fl_bV (fl_refl) (fun _ => fl_89_104 hn hE _ _ _ _)))))))))))))
theorem fl_91 {n n' : Nat} (hn : n ≤ n') {E E' : Int32 → amS → amQ} (hE : ∀ x S, FL (E x S) (E' x S)) (l1 : Int32) (l2 : Int32) (S : amS) : FL (g_91 E n l1 l2 S) (g_91 E' n' l1 l2 S) := by
  unfold g_91
  exact fl_bI (fl_refl) (fun _ _ => fl_bI (fl_77 hn _) (fun _ _ => fl_bV (fl_refl) (fun _ => fl_bI (fl_refl) (fun _ _ => fl_bI (fl_refl) (fun _ _ => fl_bI (fl_11 hn _ _ _ _) (fun _ _ => fl_bV (hE _ _) (fun _ => fl_bI (fl_refl) (fun _ _ => fl_refl))))))))
theorem flh_92_14 {n n' : Nat} (hn : n ≤ n') {E E' : Int32 → amS → amQ} (hE : ∀ x S, FL (E x S) (E' x S)) {H14 H14' : Nat → Int32 → Int32 → Int32 → amS → amQ} (hH14 : ∀ a0 a1 a2 a3 S, FL (H14 a0 a1 a2 a3 S) (H14' a0 a1 a2 a3 S)) (l1 : Nat) (l2 : Int32) (l3 : Int32) (l4 : Int32) (S : amS) : FL (h_92_14 E n H14 l1 l2 l3 l4 S) (h_92_14 E' n' H14' l1 l2 l3 l4 S) := by
  unfold h_92_14
  exact fl_if (fl_ite (fl_if (fl_bI (fl_refl) (fun _ _ => fl_if (fl_st (fun _ => fl_refl))))) (fl_bV (hE _ _) (fun _ => hH14 _ _ _ _ _)))
theorem fl_92_14 : ∀ {n n' : Nat} (hn : n ≤ n') {E E' : Int32 → amS → amQ} (hE : ∀ x S, FL (E x S) (E' x S)) (l1 : Nat) (l2 : Int32) (l3 : Int32) (l4 : Int32) (S : amS), FL (g_92_14 E n l1 l2 l3 l4 S) (g_92_14 E' n' l1 l2 l3 l4 S)
  | 0, _, _, _, _, _, _, _, _, _, _ => fl_none
  | n + 1, 0, h, _, _, _, _, _, _, _, _ => absurd h (Nat.not_succ_le_zero n)
  | n + 1, n' + 1, h, _, _, hE, l1, l2, l3, l4, S => flh_92_14 (Nat.le_of_succ_le_succ h) hE (fun a0 a1 a2 a3 S => fl_92_14 (Nat.le_of_succ_le_succ h) hE a0 a1 a2 a3 S) l1 l2 l3 l4 S
theorem fl_92 {n n' : Nat} (hn : n ≤ n') {E E' : Int32 → amS → amQ} (hE : ∀ x S, FL (E x S) (E' x S)) (l1 : Nat) (l2 : Int32) (l3 : Int32) (S : amS) : FL (g_92 E n l1 l2 l3 S) (g_92 E' n' l1 l2 l3 S) := by
  unfold g_92
  exact fl_bI (fl_refl) (fun _ _ => fl_92_14 hn hE _ _ _ _ _)
theorem fl_80 {n n' : Nat} (hn : n ≤ n') {E E' : Int32 → amS → amQ} (hE : ∀ x S, FL (E x S) (E' x S)) (l1 : Nat) (l2 : Int32) (l3 : Int32) (S : amS) : FL (g_80 E n l1 l2 l3 S) (g_80 E' n' l1 l2 l3 S) := by
  unfold g_80
  exact fl_if (fl_ck (fl_st (fun _ => fl_ite (fl_bV (fl_85 hn hE _ _ _) (fun _ => fl_refl)) (fl_ite (fl_bV (fl_86 hn hE _ _ _) (fun _ => fl_refl)) (fl_ite (fl_bV (fl_87 hn hE _ _ _) (fun _ => fl_refl)) (fl_ite (fl_bV (fl_89 hn hE _ _ _) (fun _ => fl_refl)) (fl_ite (fl_bV (fl_91 hn hE _ _ _) (fun _ => fl_refl)) (fl_ite (fl_bI (fl_refl) (fun _ _ => fl_bV (fl_82 hn hE _ _) (fun _ => fl_refl))) (fl_bV (fl_92 hn hE _ _ _ _) (fun _ => fl_refl))))))))))
theorem fl_93_65 {n n' : Nat} (hn : n ≤ n') {E E' : Int32 → amS → amQ} (hE : ∀ x S, FL (E x S) (E' x S)) (l1 : Int32) (l3 : Int32) (S : amS) : FL (g_93_65 E n l1 l3 S) (g_93_65 E' n' l1 l3 S) := by
  unfold g_93_65
  exact fl_bI (fl_refl) (fun _ _ => fl_st (fun _ => fl_refl))
theorem flh_93_37 {n n' : Nat} (hn : n ≤ n') {E E' : Int32 → amS → amQ} (hE : ∀ x S, FL (E x S) (E' x S)) {H37 H37' : Int32 → Int32 → Int32 → amS → amQ} (hH37 : ∀ a0 a1 a2 S, FL (H37 a0 a1 a2 S) (H37' a0 a1 a2 S)) (l1 : Int32) (l2 : Int32) (l3 : Int32) (S : amS) : FL (h_93_37 E n H37 l1 l2 l3 S) (h_93_37 E' n' H37' l1 l2 l3 S) := by
  unfold h_93_37
  exact fl_ite (fl_93_65 hn hE _ _ _) (fl_bI (fl_104 hn _) (fun _ _ => fl_ite (fl_93_65 hn hE _ _ _) (fl_bV (hE _ _) (fun _ => hH37 _ _ _ _))))
theorem fl_93_37 : ∀ {n n' : Nat} (hn : n ≤ n') {E E' : Int32 → amS → amQ} (hE : ∀ x S, FL (E x S) (E' x S)) (l1 : Int32) (l2 : Int32) (l3 : Int32) (S : amS), FL (g_93_37 E n l1 l2 l3 S) (g_93_37 E' n' l1 l2 l3 S)
  | 0, _, _, _, _, _, _, _, _, _ => fl_none
  | n + 1, 0, h, _, _, _, _, _, _, _ => absurd h (Nat.not_succ_le_zero n)
  | n + 1, n' + 1, h, _, _, hE, l1, l2, l3, S => flh_93_37 (Nat.le_of_succ_le_succ h) hE (fun a0 a1 a2 S => fl_93_37 (Nat.le_of_succ_le_succ h) hE a0 a1 a2 S) l1 l2 l3 S
theorem fl_93_35 {n n' : Nat} (hn : n ≤ n') {E E' : Int32 → amS → amQ} (hE : ∀ x S, FL (E x S) (E' x S)) (l1 : Int32) (l2 : Int32) (S : amS) : FL (g_93_35 E n l1 l2 S) (g_93_35 E' n' l1 l2 S) := by
  unfold g_93_35
  exact fl_93_37 hn hE _ _ _ _
theorem fl_93 {n n' : Nat} (hn : n ≤ n') {E E' : Int32 → amS → amQ} (hE : ∀ x S, FL (E x S) (E' x S)) (l1 : Int32) (l2 : Int32) (S : amS) : FL (g_93 E n l1 l2 S) (g_93 E' n' l1 l2 S) := by
  unfold g_93
  exact fl_bI (fl_refl) (fun _ _ => fl_bI (fl_104 hn _) (fun _ _ => fl_ite (fl_bV (hE _ _) (fun _ => fl_93_35 hn hE _ _ _)) (fl_bV (fl_76 hn _) (fun _ => fl_93_35 hn hE _ _ _))))
theorem fl_78_76 {n n' : Nat} (hn : n ≤ n') {E E' : Int32 → amS → amQ} (hE : ∀ x S, FL (E x S) (E' x S)) (S : amS) : FL (g_78_76 E n S) (g_78_76 E' n' S) := by
  unfold g_78_76
  exact fl_bV (fl_81 hn _ _) (fun _ => fl_refl)
theorem fl_78_11 {n n' : Nat} (hn : n ≤ n') {E E' : Int32 → amS → amQ} (hE : ∀ x S, FL (E x S) (E' x S)) (l1 : Int32) (l2 : Int32) (S : amS) : FL (g_78_11 E n l1 l2 S) (g_78_11 E' n' l1 l2 S) := by
  unfold g_78_11
  exact fl_st (fun _ => fl_bI (fl_103 hn _) (fun _ _ => fl_bW (fl_79 hn _) (fun _ _ => fl_if (fl_if (fl_st (fun _ => fl_bV (fl_80 hn hE _ _ _ _) (fun _ => fl_78_76 hn hE _))))) (fun _ => fl_bV (fl_93 hn hE _ _ _) (fun _ => fl_78_76 hn hE _))))
theorem fl_78 {n n' : Nat} (hn : n ≤ n') {E E' : Int32 → amS → amQ} (hE : ∀ x S, FL (E x S) (E' x S)) (l1 : Int32) (l2 : Int32) (S : amS) : FL (g_78 E n l1 l2 S) (g_78 E' n' l1 l2 S) := by
  unfold g_78
  exact fl_ite (fl_78_11 hn hE _ _ _) (fl_bV (fl_refl) (fun _ => fl_78_11 hn hE _ _ _))
theorem fl_b73 {n n' : Nat} (hn : n ≤ n') {E E' : Int32 → amS → amQ} (hE : ∀ x S, FL (E x S) (E' x S)) (l1 : Int32) (S : amS) : FL (b_73 E n l1 S) (b_73 E' n' l1 S) := by
  unfold b_73
  exact fl_bI (fl_103 hn _) (fun _ _ => fl_bI (fl_104 hn _) (fun _ _ => fl_ite (fl_bV (fl_78 hn hE _ _ _) (fun _ => fl_refl)) (fl_bI (fl_refl) (fun _ _ => fl_ite (fl_bI (fl_107 hn _ _) (fun _ _ => fl_ite (fl_bV (fl_76 hn _) (fun _ => fl_refl)) (fl_st (fun _ => fl_bV (fl_refl) (fun _ => fl_refl))))) (fl_bI (fl_75 hn _) (fun _ _ => fl_bV (fl_refl) (fun _ => fl_refl)))))))
theorem fl_117 {n n' : Nat} (hn : n ≤ n') {E E' : Int32 → amS → amQ} (hE : ∀ x S, FL (E x S) (E' x S)) (S : amS) : FL (g_117 E n S) (g_117 E' n' S) := by
  unfold g_117
  exact fl_bV (fl_refl) (fun _ => fl_bV (fl_71 hn hE _) (fun _ => fl_bV (fl_refl) (fun _ => fl_refl)))
theorem fl_73 : ∀ (k : Nat) {n n' : Nat} (hn : n ≤ n') (x : Int32) (S : amS), FL (g_73 k n x S) (g_73 k n' x S)
  | 0, _, _, _, _, _ => fl_none
  | k + 1, _, _, hn, x, S => fl_b73 hn (fun x S => fl_73 k hn x S) x S
noncomputable def G_73 (k : Nat) (x : Int32) (S : amS) : amQ := az_lim (fun m _ => g_73 k m x S)
theorem ev_73 (k : Nat) (x : Int32) (S : amS) : EV (fun m _ => g_73 k m x S) (G_73 k x S) := ev_lim (fun m m' n n' hm hn => fl_73 k hm x S)
