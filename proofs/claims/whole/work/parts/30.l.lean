theorem fl_181 {n n' : Nat} (hn : n ≤ n') (l1 : Int64) (l3 : Int32) (S : lawS) : FL (g_181 n l1 l3 S) (g_181 n' l1 l3 S) := by
  unfold g_181
  exact fl_tI2 (fl_lfC (fl_116 hn _ _ _)) (fun _ _ => fl_ck (fl_st (fun _ => fl_refl)))
noncomputable def G_181 (l1 : Int64) (l3 : Int32) (S : lawS) : lawQ := az_tI2 (lfC S (G_116 l1 l3 S.1)) (fun x2 S1 => az_ck 0 1 (az_st (sU S1 (0 : Int32).toNatClampNeg (Int32.toInt64 x2)) fun S3 => some (.inl (some (.int 0)), S3))) (fun S1 => some (.inl (some (.int 1)), S1)) (fun S1 => some (.inl (some (.int 2)), S1))
theorem ev_181 (l1 : Int64) (l3 : Int32) (S : lawS) : EV (fun m n => g_181 n l1 l3 S) (G_181 l1 l3 S) := by
  unfold g_181 G_181
  exact ev_tI2 (ev_lfC (ev_116 _ _ _)) (fun _ _ => ev_ck (ev_st (fun _ => ev_c)))
theorem fl_182 {n n' : Nat} (hn : n ≤ n') (S : lawS) : FL (g_182 n S) (g_182 n' S) := by
  unfold g_182
  exact fl_tV1 (fl_lfC (fl_117 hn (fun x S => fl_73 25 hn x S) _)) (fun _ => fl_refl)
noncomputable def G_182 (S : lawS) : lawQ := az_tV1 (lfC S (G_117 25 S.1)) (fun S1 => some (.inl (some (.int 0)), S1)) (fun S1 => some (.inl (some (.int 1)), S1))
theorem ev_182 (S : lawS) : EV (fun m n => g_182 n S) (G_182 S) := by
  unfold g_182 G_182
  exact ev_tV1 (ev_lfC (ev_diag (ev_117 25 _))) (fun _ => ev_c)
theorem fl_183 {n n' : Nat} (hn : n ≤ n') (l1 : Int32) (S : lawS) : FL (g_183 n l1 S) (g_183 n' l1 S) := by
  unfold g_183
  exact fl_tI2 (fl_lfC (fl_119 hn _ _)) (fun _ _ => fl_ck (fl_st (fun _ => fl_refl)))
noncomputable def G_183 (l1 : Int32) (S : lawS) : lawQ := az_tI2 (lfC S (G_119 l1 S.1)) (fun x2 S1 => az_ck 0 1 (az_st (sU S1 (0 : Int32).toNatClampNeg (Int32.toInt64 x2)) fun S3 => some (.inl (some (.int 0)), S3))) (fun S1 => some (.inl (some (.int 1)), S1)) (fun S1 => some (.inl (some (.int 2)), S1))
theorem ev_183 (l1 : Int32) (S : lawS) : EV (fun m n => g_183 n l1 S) (G_183 l1 S) := by
  unfold g_183 G_183
  exact ev_tI2 (ev_lfC (ev_119 _ _)) (fun _ _ => ev_ck (ev_st (fun _ => ev_c)))
theorem fl_184 {n n' : Nat} (hn : n ≤ n') (l1 : Int32) (S : lawS) : FL (g_184 n l1 S) (g_184 n' l1 S) := by
  unfold g_184
  exact fl_tI1 (fl_refl) (fun _ _ => fl_ck (fl_st (fun _ => fl_refl)))
noncomputable def G_184 (l1 : Int32) (S : lawS) : lawQ := az_tI1 (lfC S (g_121 l1 S.1)) (fun x2 S1 => az_ck 0 1 (az_st (sU S1 (0 : Int32).toNatClampNeg (Int32.toInt64 x2)) fun S3 => some (.inl (some (.int 0)), S3))) (fun S1 => some (.inl (some (.int 1)), S1))
theorem ev_184 (l1 : Int32) (S : lawS) : EV (fun m n => g_184 n l1 S) (G_184 l1 S) := by
  unfold g_184 G_184
  exact ev_tI1 (ev_c) (fun _ _ => ev_ck (ev_st (fun _ => ev_c)))
theorem fl_185 {n n' : Nat} (hn : n ≤ n') (l1 : Int32) (S : lawS) : FL (g_185 n l1 S) (g_185 n' l1 S) := by
  unfold g_185
  exact fl_tO1 (fl_refl) (fun _ _ => fl_ck (fl_st (fun _ => fl_refl)))
noncomputable def G_185 (l1 : Int32) (S : lawS) : lawQ := az_tO1 (lfC S (g_122 l1 S.1)) (fun x2 S1 => az_ck 0 1 (az_st (sU S1 (0 : Int32).toNatClampNeg (Int32.toInt64 x2)) fun S3 => some (.inl (some (.int 0)), S3))) (fun S1 => some (.inl (some (.int 1)), S1))
theorem ev_185 (l1 : Int32) (S : lawS) : EV (fun m n => g_185 n l1 S) (G_185 l1 S) := by
  unfold g_185 G_185
  exact ev_tO1 (ev_c) (fun _ _ => ev_ck (ev_st (fun _ => ev_c)))
theorem fl_186 {n n' : Nat} (hn : n ≤ n') (l1 : Int32) (S : lawS) : FL (g_186 n l1 S) (g_186 n' l1 S) := by
  unfold g_186
  exact fl_tI2 (fl_lfC (fl_123 hn _ _)) (fun _ _ => fl_ck (fl_st (fun _ => fl_refl)))
noncomputable def G_186 (l1 : Int32) (S : lawS) : lawQ := az_tI2 (lfC S (G_123 l1 S.1)) (fun x2 S1 => az_ck 0 1 (az_st (sU S1 (0 : Int32).toNatClampNeg (Int32.toInt64 x2)) fun S3 => some (.inl (some (.int 0)), S3))) (fun S1 => some (.inl (some (.int 1)), S1)) (fun S1 => some (.inl (some (.int 2)), S1))
theorem ev_186 (l1 : Int32) (S : lawS) : EV (fun m n => g_186 n l1 S) (G_186 l1 S) := by
  unfold g_186 G_186
  exact ev_tI2 (ev_lfC (ev_123 _ _)) (fun _ _ => ev_ck (ev_st (fun _ => ev_c)))
theorem fl_187 {n n' : Nat} (hn : n ≤ n') (l1 : Int32) (S : lawS) : FL (g_187 n l1 S) (g_187 n' l1 S) := by
  unfold g_187
  exact fl_tI2 (fl_lfC (fl_124 hn _ _)) (fun _ _ => fl_ck (fl_st (fun _ => fl_refl)))
noncomputable def G_187 (l1 : Int32) (S : lawS) : lawQ := az_tI2 (lfC S (G_124 l1 S.1)) (fun x2 S1 => az_ck 0 1 (az_st (sU S1 (0 : Int32).toNatClampNeg (Int32.toInt64 x2)) fun S3 => some (.inl (some (.int 0)), S3))) (fun S1 => some (.inl (some (.int 1)), S1)) (fun S1 => some (.inl (some (.int 2)), S1))
theorem ev_187 (l1 : Int32) (S : lawS) : EV (fun m n => g_187 n l1 S) (G_187 l1 S) := by
  unfold g_187 G_187
  exact ev_tI2 (ev_lfC (ev_124 _ _)) (fun _ _ => ev_ck (ev_st (fun _ => ev_c)))
theorem fl_188_518 {n n' : Nat} (hn : n ≤ n') {H23 H23' : Int32 → lawS → lawQ} (hH23 : ∀ a0 S, FL (H23 a0 S) (H23' a0 S)) (X : amX) (l4 : Int32) (S : lawS) : FL (g_188_518 X n H23 l4 S) (g_188_518 X n' H23' l4 S) := by
  unfold g_188_518
  exact hH23 _ _
theorem fl_188_515 {n n' : Nat} (hn : n ≤ n') {H23 H23' : Int32 → lawS → lawQ} (hH23 : ∀ a0 S, FL (H23 a0 S) (H23' a0 S)) (X : amX) (l4 : Int32) (S : lawS) : FL (g_188_515 X n H23 l4 S) (g_188_515 X n' H23' l4 S) := by
  unfold g_188_515
  exact fl_188_518 hn hH23 _ _ _
theorem fl_188_459 {n n' : Nat} (hn : n ≤ n') {H23 H23' : Int32 → lawS → lawQ} (hH23 : ∀ a0 S, FL (H23 a0 S) (H23' a0 S)) (X : amX) (l4 : Int32) (S : lawS) : FL (g_188_459 X n H23 l4 S) (g_188_459 X n' H23' l4 S) := by
  unfold g_188_459
  exact fl_188_518 hn hH23 _ _ _
theorem fl_188_403 {n n' : Nat} (hn : n ≤ n') {H23 H23' : Int32 → lawS → lawQ} (hH23 : ∀ a0 S, FL (H23 a0 S) (H23' a0 S)) (X : amX) (l4 : Int32) (S : lawS) : FL (g_188_403 X n H23 l4 S) (g_188_403 X n' H23' l4 S) := by
  unfold g_188_403
  exact fl_188_518 hn hH23 _ _ _
theorem fl_188_347 {n n' : Nat} (hn : n ≤ n') {H23 H23' : Int32 → lawS → lawQ} (hH23 : ∀ a0 S, FL (H23 a0 S) (H23' a0 S)) (X : amX) (l4 : Int32) (S : lawS) : FL (g_188_347 X n H23 l4 S) (g_188_347 X n' H23' l4 S) := by
  unfold g_188_347
  exact fl_188_518 hn hH23 _ _ _
theorem fl_188_278 {n n' : Nat} (hn : n ≤ n') {H23 H23' : Int32 → lawS → lawQ} (hH23 : ∀ a0 S, FL (H23 a0 S) (H23' a0 S)) (X : amX) (l4 : Int32) (S : lawS) : FL (g_188_278 X n H23 l4 S) (g_188_278 X n' H23' l4 S) := by
  unfold g_188_278
  exact fl_188_518 hn hH23 _ _ _
theorem fl_188_185 {n n' : Nat} (hn : n ≤ n') {H23 H23' : Int32 → lawS → lawQ} (hH23 : ∀ a0 S, FL (H23 a0 S) (H23' a0 S)) (X : amX) (l4 : Int32) (S : lawS) : FL (g_188_185 X n H23 l4 S) (g_188_185 X n' H23' l4 S) := by
  unfold g_188_185
  exact fl_188_518 hn hH23 _ _ _
theorem flh_188_23 {n n' : Nat} (hn : n ≤ n') {H23 H23' : Int32 → lawS → lawQ} (hH23 : ∀ a0 S, FL (H23 a0 S) (H23' a0 S)) (X : amX) (l4 : Int32) (S : lawS) : FL (h_188_23 X n H23 l4 S) (h_188_23 X n' H23' l4 S) := by
  unfold h_188_23
  exact fl_ite (fl_refl) (fl_ck (fl_st (fun _ => fl_ite (fl_ck (fl_ck (fl_ck (fl_bI (fl_181 hn _ _ _) (fun _ _ => fl_ck (fl_ck (fl_ck (fl_bI (fl_lfM (fl_130 hn _ _ _)) (fun _ _ => fl_bI (fl_refl) (fun _ _ => fl_ite (fl_ite (fl_ck (fl_ite (fl_188_185 hn hH23 _ _ _) (fl_refl))) (fl_188_185 hn hH23 _ _ _)) (fl_refl))))))))))) (fl_ite (fl_bI (fl_182 hn _) (fun _ _ => fl_bV (fl_lfM (fl_154 hn _)) (fun _ => fl_bI (fl_refl) (fun _ _ => fl_ite (fl_188_518 hn hH23 _ _ _) (fl_refl))))) (fl_ite (fl_bI (fl_refl) (fun _ _ => fl_bI (fl_refl) (fun _ _ => fl_ite (fl_188_518 hn hH23 _ _ _) (fl_refl)))) (fl_ite (fl_ck (fl_bI (fl_183 hn _ _) (fun _ _ => fl_ck (fl_bI (fl_lfM (fl_173 hn _ _)) (fun _ _ => fl_bI (fl_refl) (fun _ _ => fl_ite (fl_ite (fl_ck (fl_ite (fl_188_278 hn hH23 _ _ _) (fl_refl))) (fl_188_278 hn hH23 _ _ _)) (fl_refl))))))) (fl_ite (fl_bI (fl_refl) (fun _ _ => fl_bI (fl_refl) (fun _ _ => fl_ite (fl_188_518 hn hH23 _ _ _) (fl_refl)))) (fl_ite (fl_ck (fl_bI (fl_184 hn _ _) (fun _ _ => fl_ck (fl_bI (fl_refl) (fun _ _ => fl_bI (fl_refl) (fun _ _ => fl_ite (fl_ite (fl_ck (fl_ite (fl_188_347 hn hH23 _ _ _) (fl_refl))) (fl_188_347 hn hH23 _ _ _)) (fl_refl))))))) (fl_ite (fl_ck (fl_bI (fl_185 hn _ _) (fun _ _ => fl_ck (fl_bI (fl_refl) (fun _ _ => fl_bI (fl_refl) (fun _ _ => fl_ite (fl_ite (fl_ck (fl_ite (fl_188_403 hn hH23 _ _ _) (fl_refl))) (fl_188_403 hn hH23 _ _ _)) (fl_refl))))))) (fl_ite (fl_ck (fl_bI (fl_186 hn _ _) (fun _ _ => fl_ck (fl_bI (fl_lfM (fl_179 hn _ _)) (fun _ _ => fl_bI (fl_refl) (fun _ _ => fl_ite (fl_ite (fl_ck (fl_ite (fl_188_459 hn hH23 _ _ _) (fl_refl))) (fl_188_459 hn hH23 _ _ _)) (fl_refl))))))) (fl_ite (fl_ck (fl_bI (fl_187 hn _ _) (fun _ _ => fl_ck (fl_bI (fl_lfM (fl_180 hn _ _)) (fun _ _ => fl_bI (fl_refl) (fun _ _ => fl_ite (fl_ite (fl_ck (fl_ite (fl_188_515 hn hH23 _ _ _) (fl_refl))) (fl_188_515 hn hH23 _ _ _)) (fl_refl))))))) (fl_188_518 hn hH23 _ _ _))))))))))))
theorem fl_188_23 : ∀ {n n' : Nat} (hn : n ≤ n') (X : amX) (l4 : Int32) (S : lawS), FL (g_188_23 X n l4 S) (g_188_23 X n' l4 S)
  | 0, _, _, _, _, _ => fl_none
  | n + 1, 0, h, _, _, _ => absurd h (Nat.not_succ_le_zero n)
  | n + 1, n' + 1, h, X, l4, S => flh_188_23 (Nat.le_of_succ_le_succ h) (fun a0 S => fl_188_23 (Nat.le_of_succ_le_succ h) X a0 S) X l4 S
noncomputable def G_188_518 (X : amX) (H23 : Int32 → lawS → lawQ) (l4 : Int32) (S : lawS) : lawQ := H23 (l4 + 4) S
theorem ev_188_518 (X : amX) {N23 : Nat → Nat → Int32 → lawS → lawQ} {H23 : Int32 → lawS → lawQ} (hH23 : ∀ a0 S, EV (fun m n => N23 m n a0 S) (H23 a0 S)) (l4 : Int32) (S : lawS) : EV (fun m n => g_188_518 X n (N23 m n) l4 S) (G_188_518 X H23 l4 S) := by
  unfold g_188_518 G_188_518
  exact hH23 _ _
noncomputable def G_188_515 (X : amX) (H23 : Int32 → lawS → lawQ) (l4 : Int32) (S : lawS) : lawQ := G_188_518 X H23 l4 S
theorem ev_188_515 (X : amX) {N23 : Nat → Nat → Int32 → lawS → lawQ} {H23 : Int32 → lawS → lawQ} (hH23 : ∀ a0 S, EV (fun m n => N23 m n a0 S) (H23 a0 S)) (l4 : Int32) (S : lawS) : EV (fun m n => g_188_515 X n (N23 m n) l4 S) (G_188_515 X H23 l4 S) := by
  unfold g_188_515 G_188_515
  exact ev_188_518 X hH23 _ _
noncomputable def G_188_459 (X : amX) (H23 : Int32 → lawS → lawQ) (l4 : Int32) (S : lawS) : lawQ := G_188_518 X H23 l4 S
theorem ev_188_459 (X : amX) {N23 : Nat → Nat → Int32 → lawS → lawQ} {H23 : Int32 → lawS → lawQ} (hH23 : ∀ a0 S, EV (fun m n => N23 m n a0 S) (H23 a0 S)) (l4 : Int32) (S : lawS) : EV (fun m n => g_188_459 X n (N23 m n) l4 S) (G_188_459 X H23 l4 S) := by
  unfold g_188_459 G_188_459
  exact ev_188_518 X hH23 _ _
noncomputable def G_188_403 (X : amX) (H23 : Int32 → lawS → lawQ) (l4 : Int32) (S : lawS) : lawQ := G_188_518 X H23 l4 S
theorem ev_188_403 (X : amX) {N23 : Nat → Nat → Int32 → lawS → lawQ} {H23 : Int32 → lawS → lawQ} (hH23 : ∀ a0 S, EV (fun m n => N23 m n a0 S) (H23 a0 S)) (l4 : Int32) (S : lawS) : EV (fun m n => g_188_403 X n (N23 m n) l4 S) (G_188_403 X H23 l4 S) := by
  unfold g_188_403 G_188_403
  exact ev_188_518 X hH23 _ _
noncomputable def G_188_347 (X : amX) (H23 : Int32 → lawS → lawQ) (l4 : Int32) (S : lawS) : lawQ := G_188_518 X H23 l4 S
theorem ev_188_347 (X : amX) {N23 : Nat → Nat → Int32 → lawS → lawQ} {H23 : Int32 → lawS → lawQ} (hH23 : ∀ a0 S, EV (fun m n => N23 m n a0 S) (H23 a0 S)) (l4 : Int32) (S : lawS) : EV (fun m n => g_188_347 X n (N23 m n) l4 S) (G_188_347 X H23 l4 S) := by
  unfold g_188_347 G_188_347
  exact ev_188_518 X hH23 _ _
noncomputable def G_188_278 (X : amX) (H23 : Int32 → lawS → lawQ) (l4 : Int32) (S : lawS) : lawQ := G_188_518 X H23 l4 S
theorem ev_188_278 (X : amX) {N23 : Nat → Nat → Int32 → lawS → lawQ} {H23 : Int32 → lawS → lawQ} (hH23 : ∀ a0 S, EV (fun m n => N23 m n a0 S) (H23 a0 S)) (l4 : Int32) (S : lawS) : EV (fun m n => g_188_278 X n (N23 m n) l4 S) (G_188_278 X H23 l4 S) := by
  unfold g_188_278 G_188_278
  exact ev_188_518 X hH23 _ _
noncomputable def G_188_185 (X : amX) (H23 : Int32 → lawS → lawQ) (l4 : Int32) (S : lawS) : lawQ := G_188_518 X H23 l4 S
theorem ev_188_185 (X : amX) {N23 : Nat → Nat → Int32 → lawS → lawQ} {H23 : Int32 → lawS → lawQ} (hH23 : ∀ a0 S, EV (fun m n => N23 m n a0 S) (H23 a0 S)) (l4 : Int32) (S : lawS) : EV (fun m n => g_188_185 X n (N23 m n) l4 S) (G_188_185 X H23 l4 S) := by
  unfold g_188_185 G_188_185
  exact ev_188_518 X hH23 _ _
noncomputable def G_188_23 (X : amX) (l4 : Int32) (S : lawS) : lawQ := az_lim (fun m n => g_188_23 X n l4 S)
theorem ev_188_23 (X : amX) (l4 : Int32) (S : lawS) : EV (fun m n => g_188_23 X n l4 S) (G_188_23 X l4 S) := ev_lim (fun m m' n n' hm hn => fl_188_23 hn X l4 S)
noncomputable def B_188_23 (X : amX) (H23 : Int32 → lawS → lawQ) (l4 : Int32) (S : lawS) : lawQ := if ((Int32.ofNat X.1) - 4) < l4 then some (.inl (some (.int 1)), S) else az_ck l4 X.1 (az_st ((X.2 l4.toNatClampNeg) &&& 15) fun x1 => if x1 = 0 then (az_ck (l4 + 1) X.1 (az_ck (l4 + 2) X.1 (az_ck (l4 + 3) X.1 (az_bI (G_181 (((Int32.toInt64 (X.2 (l4 + 1).toNatClampNeg)) <<< ((32 : Int32).toInt64 &&& 63)) ||| ((Int32.toInt64 (X.2 (l4 + 2).toNatClampNeg)) &&& 4294967295)) (X.2 (l4 + 3).toNatClampNeg) S) fun x3 S2 => az_ck (l4 + 1) X.1 (az_ck (l4 + 2) X.1 (az_ck (l4 + 3) X.1 (az_bI (lfM S2 (G_130 (((Int32.toInt64 (X.2 (l4 + 1).toNatClampNeg)) <<< ((32 : Int32).toInt64 &&& 63)) ||| ((Int32.toInt64 (X.2 (l4 + 2).toNatClampNeg)) &&& 4294967295)) (X.2 (l4 + 3).toNatClampNeg) S2.2.1)) fun x5 S4 => az_bI (lfM S4 (g_127 S4.2.1)) fun x7 S6 => if x7 = x3 then if x3 = 0 then az_ck 0 1 (if (lg_cmp (S6.2.2.1 (0 : Int32).toNatClampNeg) (Int32.toInt64 x5)) = 0 then G_188_185 X H23 l4 S6 else some (.inl (some (.int 0)), S6)) else G_188_185 X H23 l4 S6 else some (.inl (some (.int 0)), S6)))))))) else if x1 = 1 then (az_bI (G_182 S) fun x9 S8 => az_bV (lfM S8 (G_154 S8.2.1)) fun S10 => az_bI (lfM S10 (g_127 S10.2.1)) fun x12 S11 => if x12 = x9 then G_188_518 X H23 l4 S11 else some (.inl (some (.int 0)), S11)) else if x1 = 2 then (az_bI (lfC S (g_118 S.1)) fun x14 S13 => az_bI (lfM S13 (g_174 S13.2.1)) fun x16 S15 => if x14 = x16 then G_188_518 X H23 l4 S15 else some (.inl (some (.int 0)), S15)) else if x1 = 3 then (az_ck (l4 + 1) X.1 (az_bI (G_183 (X.2 (l4 + 1).toNatClampNeg) S) fun x18 S17 => az_ck (l4 + 1) X.1 (az_bI (lfM S17 (G_173 (X.2 (l4 + 1).toNatClampNeg) S17.2.1)) fun x20 S19 => az_bI (lfM S19 (g_127 S19.2.1)) fun x22 S21 => if x22 = x18 then if x18 = 0 then az_ck 0 1 (if (lg_cmp (S21.2.2.1 (0 : Int32).toNatClampNeg) (Int32.toInt64 x20)) = 0 then G_188_278 X H23 l4 S21 else some (.inl (some (.int 0)), S21)) else G_188_278 X H23 l4 S21 else some (.inl (some (.int 0)), S21)))) else if x1 = 4 then (az_bI (lfC S (g_120 S.1)) fun x24 S23 => az_bI (lfM S23 (g_175 S23.2.1)) fun x26 S25 => if x24 = x26 then G_188_518 X H23 l4 S25 else some (.inl (some (.int 0)), S25)) else if x1 = 5 then (az_ck (l4 + 1) X.1 (az_bI (G_184 (X.2 (l4 + 1).toNatClampNeg) S) fun x28 S27 => az_ck (l4 + 1) X.1 (az_bI (lfM S27 (g_176 (X.2 (l4 + 1).toNatClampNeg) S27.2.1)) fun x30 S29 => az_bI (lfM S29 (g_127 S29.2.1)) fun x32 S31 => if x32 = x28 then if x28 = 0 then az_ck 0 1 (if (lg_cmp (S31.2.2.1 (0 : Int32).toNatClampNeg) (Int32.toInt64 x30)) = 0 then G_188_347 X H23 l4 S31 else some (.inl (some (.int 0)), S31)) else G_188_347 X H23 l4 S31 else some (.inl (some (.int 0)), S31)))) else if x1 = 6 then (az_ck (l4 + 1) X.1 (az_bI (G_185 (X.2 (l4 + 1).toNatClampNeg) S) fun x34 S33 => az_ck (l4 + 1) X.1 (az_bI (lfM S33 (g_177 (X.2 (l4 + 1).toNatClampNeg) S33.2.1)) fun x36 S35 => az_bI (lfM S35 (g_127 S35.2.1)) fun x38 S37 => if x38 = x34 then if x34 = 0 then az_ck 0 1 (if (lg_cmp (S37.2.2.1 (0 : Int32).toNatClampNeg) (Int32.toInt64 x36)) = 0 then G_188_403 X H23 l4 S37 else some (.inl (some (.int 0)), S37)) else G_188_403 X H23 l4 S37 else some (.inl (some (.int 0)), S37)))) else if x1 = 7 then (az_ck (l4 + 1) X.1 (az_bI (G_186 (X.2 (l4 + 1).toNatClampNeg) S) fun x40 S39 => az_ck (l4 + 1) X.1 (az_bI (lfM S39 (G_179 (X.2 (l4 + 1).toNatClampNeg) S39.2.1)) fun x42 S41 => az_bI (lfM S41 (g_127 S41.2.1)) fun x44 S43 => if x44 = x40 then if x40 = 0 then az_ck 0 1 (if (lg_cmp (S43.2.2.1 (0 : Int32).toNatClampNeg) (Int32.toInt64 x42)) = 0 then G_188_459 X H23 l4 S43 else some (.inl (some (.int 0)), S43)) else G_188_459 X H23 l4 S43 else some (.inl (some (.int 0)), S43)))) else if x1 = 8 then (az_ck (l4 + 1) X.1 (az_bI (G_187 (X.2 (l4 + 1).toNatClampNeg) S) fun x46 S45 => az_ck (l4 + 1) X.1 (az_bI (lfM S45 (G_180 (X.2 (l4 + 1).toNatClampNeg) S45.2.1)) fun x48 S47 => az_bI (lfM S47 (g_127 S47.2.1)) fun x50 S49 => if x50 = x46 then if x46 = 0 then az_ck 0 1 (if (lg_cmp (S49.2.2.1 (0 : Int32).toNatClampNeg) (Int32.toInt64 x48)) = 0 then G_188_515 X H23 l4 S49 else some (.inl (some (.int 0)), S49)) else G_188_515 X H23 l4 S49 else some (.inl (some (.int 0)), S49)))) else G_188_518 X H23 l4 S)
theorem evB_188_23 (X : amX) {N23 : Nat → Nat → Int32 → lawS → lawQ} {H23 : Int32 → lawS → lawQ} (hH23 : ∀ a0 S, EV (fun m n => N23 m n a0 S) (H23 a0 S)) (l4 : Int32) (S : lawS) : EV (fun m n => h_188_23 X n (N23 m n) l4 S) (B_188_23 X H23 l4 S) := by
  unfold h_188_23 B_188_23
  exact ev_ite (ev_c) (ev_ck (ev_st (fun _ => ev_ite (ev_ck (ev_ck (ev_ck (ev_bI (ev_181 _ _ _) (fun _ _ => ev_ck (ev_ck (ev_ck (ev_bI (ev_lfM (ev_130 _ _ _)) (fun _ _ => ev_bI (ev_c) (fun _ _ => ev_ite (ev_ite (ev_ck (ev_ite (ev_188_185 X hH23 _ _) (ev_c))) (ev_188_185 X hH23 _ _)) (ev_c))))))))))) (ev_ite (ev_bI (ev_182 _) (fun _ _ => ev_bV (ev_lfM (ev_154 _)) (fun _ => ev_bI (ev_c) (fun _ _ => ev_ite (ev_188_518 X hH23 _ _) (ev_c))))) (ev_ite (ev_bI (ev_c) (fun _ _ => ev_bI (ev_c) (fun _ _ => ev_ite (ev_188_518 X hH23 _ _) (ev_c)))) (ev_ite (ev_ck (ev_bI (ev_183 _ _) (fun _ _ => ev_ck (ev_bI (ev_lfM (ev_173 _ _)) (fun _ _ => ev_bI (ev_c) (fun _ _ => ev_ite (ev_ite (ev_ck (ev_ite (ev_188_278 X hH23 _ _) (ev_c))) (ev_188_278 X hH23 _ _)) (ev_c))))))) (ev_ite (ev_bI (ev_c) (fun _ _ => ev_bI (ev_c) (fun _ _ => ev_ite (ev_188_518 X hH23 _ _) (ev_c)))) (ev_ite (ev_ck (ev_bI (ev_184 _ _) (fun _ _ => ev_ck (ev_bI (ev_c) (fun _ _ => ev_bI (ev_c) (fun _ _ => ev_ite (ev_ite (ev_ck (ev_ite (ev_188_347 X hH23 _ _) (ev_c))) (ev_188_347 X hH23 _ _)) (ev_c))))))) (ev_ite (ev_ck (ev_bI (ev_185 _ _) (fun _ _ => ev_ck (ev_bI (ev_c) (fun _ _ => ev_bI (ev_c) (fun _ _ => ev_ite (ev_ite (ev_ck (ev_ite (ev_188_403 X hH23 _ _) (ev_c))) (ev_188_403 X hH23 _ _)) (ev_c))))))) (ev_ite (ev_ck (ev_bI (ev_186 _ _) (fun _ _ => ev_ck (ev_bI (ev_lfM (ev_179 _ _)) (fun _ _ => ev_bI (ev_c) (fun _ _ => ev_ite (ev_ite (ev_ck (ev_ite (ev_188_459 X hH23 _ _) (ev_c))) (ev_188_459 X hH23 _ _)) (ev_c))))))) (ev_ite (ev_ck (ev_bI (ev_187 _ _) (fun _ _ => ev_ck (ev_bI (ev_lfM (ev_180 _ _)) (fun _ _ => ev_bI (ev_c) (fun _ _ => ev_ite (ev_ite (ev_ck (ev_ite (ev_188_515 X hH23 _ _) (ev_c))) (ev_188_515 X hH23 _ _)) (ev_c))))))) (ev_188_518 X hH23 _ _))))))))))))
theorem G_188_23_eq (X : amX) (l4 : Int32) (S : lawS) : G_188_23 X l4 S = B_188_23 X (G_188_23 X ) l4 S := ev_uniq (f := fun m n => g_188_23 X (n + 1) l4 S) (ev_shift (ev_188_23 X l4 S)) (evB_188_23 X (N23 := fun m n => g_188_23 X n) (fun a0 S => ev_188_23 X a0 S) l4 S)
