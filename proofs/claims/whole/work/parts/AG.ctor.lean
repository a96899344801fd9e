/-! The constructors. -/
theorem wa_get {ws0 l : va_W} (j : Nat) : (ws0 ++ l)[ws0.length + j]? = l[j]? := by rw [List.getElem?_append_right (by omega)]; congr 1; omega
theorem wa_set {ws0 l : va_W} {j : Nat} {x : Nat × va_E} : (ws0 ++ l).set (ws0.length + j) x = ws0 ++ l.set j x := by rw [List.set_append_right _ _ (by omega)]; congr 2; omega
abbrev zB : List Value := [.null, vi 0, vi 0]
abbrev zF : List Value := [vi 0, vi 0, vi 0, vi 0]
abbrev zE : List Value := [vi 0, vi 0, vi 0, vi 0, vi 0, vi 0, vi 0, vi 0, vi 0, vi 0, vi 0, vi 0, vi 0, .null]
abbrev cB_ (a q : Nat) : Nat × va_E := (a, .inr (0, [.ref q, vi 0, vi 0]))
abbrev cI_ (G : mt_G) (q N : Nat) : Nat × va_E := (q, .inl (G.2.2.1 0, N, .inl (fun _ => Int32.ofInt 0)))
theorem nn_aF {G : mt_G} {X : mt_X} {cc : ByteArray} {own : String} {nL o : Nat} (h : ON G X cc own nL o) : match X with | (_, _, _, _, s, _) => va_AO R_F s := by
  obtain ⟨p, l, e, R, s, m, args, below, meth, c, A, Q⟩ := X
  exact h.2.2.2.2.2.1.2.2.1
theorem nn_aE {G : mt_G} {X : mt_X} {cc : ByteArray} {own : String} {nL o : Nat} (h : ON G X cc own nL o) : match X with | (_, _, _, _, s, _) => va_AO R_E s := by
  obtain ⟨p, l, e, R, s, m, args, below, meth, c, A, Q⟩ := X
  exact h.2.2.2.2.2.1.2.1
theorem hf_B : ∀ j, j < 3 → defaultValue (tf_B j) = vp_V zB j
  | 0, _ => rfl
  | 1, _ => rfl
  | 2, _ => rfl
  | j + 3, h => absurd h (by omega)
theorem hf_F : ∀ j, j < 4 → defaultValue (tf_F j) = vp_V zF j
  | 0, _ => rfl
  | 1, _ => rfl
  | 2, _ => rfl
  | 3, _ => rfl
  | j + 4, h => absurd h (by omega)
theorem hf_E : ∀ j, j < 14 → defaultValue (tf_E j) = vp_V zE j
  | 0, _ => rfl
  | 1, _ => rfl
  | 2, _ => rfl
  | 3, _ => rfl
  | 4, _ => rfl
  | 5, _ => rfl
  | 6, _ => rfl
  | 7, _ => rfl
  | 8, _ => rfl
  | 9, _ => rfl
  | 10, _ => rfl
  | 11, _ => rfl
  | 12, _ => rfl
  | 13, _ => rfl
  | j + 14, h => absurd h (by omega)
theorem hf_S : ∀ j, j < 5 → defaultValue (tf_S j) = vp_V [.null, .null, vi 0, vi 0, vi 0] j
  | 0, _ => rfl
  | 1, _ => rfl
  | 2, _ => rfl
  | 3, _ => rfl
  | 4, _ => rfl
  | j + 5, h => absurd h (by omega)
theorem hf_D : ∀ j, j < 2 → defaultValue (tf_D j) = vp_V [.null, .null] j
  | 0, _ => rfl
  | 1, _ => rfl
  | j + 2, h => absurd h (by omega)
theorem hf_P : ∀ j, j < 2 → defaultValue (tf_P j) = vp_V [.null, .null] j
  | 0, _ => rfl
  | 1, _ => rfl
  | j + 2, h => absurd h (by omega)
theorem hf_T : ∀ j, j < 8 → defaultValue (tf_T j) = vp_V [.null, .null, .null, .null, .null, .null, .null, vi 0] j
  | 0, _ => rfl
  | 1, _ => rfl
  | 2, _ => rfl
  | 3, _ => rfl
  | 4, _ => rfl
  | 5, _ => rfl
  | 6, _ => rfl
  | 7, _ => rfl
  | j + 8, h => absurd h (by omega)
theorem hf_X : ∀ j, j < 4 → defaultValue (tf_X j) = vp_V [.null, .null, .null, .null] j
  | 0, _ => rfl
  | 1, _ => rfl
  | 2, _ => rfl
  | 3, _ => rfl
  | j + 4, h => absurd h (by omega)
theorem hf_M : ∀ j, j < 25 → defaultValue (tf_M j) = vp_V [vi 0, vi 0, .null, vi 0, .null, vi 0, .null, .null, .null, vi 0, vi 0, .null, .null, vi 0, vi 0, vi 0, vi 0, vi 0, .null, vi 0, vi 0, .null, vi 0, .null, .null] j
  | 0, _ => rfl
  | 1, _ => rfl
  | 2, _ => rfl
  | 3, _ => rfl
  | 4, _ => rfl
  | 5, _ => rfl
  | 6, _ => rfl
  | 7, _ => rfl
  | 8, _ => rfl
  | 9, _ => rfl
  | 10, _ => rfl
  | 11, _ => rfl
  | 12, _ => rfl
  | 13, _ => rfl
  | 14, _ => rfl
  | 15, _ => rfl
  | 16, _ => rfl
  | 17, _ => rfl
  | 18, _ => rfl
  | 19, _ => rfl
  | 20, _ => rfl
  | 21, _ => rfl
  | 22, _ => rfl
  | 23, _ => rfl
  | 24, _ => rfl
  | j + 25, h => absurd h (by omega)
theorem kB_init {G : mt_G} {l : Launch} {o a N : Nat} {ws0 : va_W} (hN : N ≤ 700) : KC G l y_B_init c_B_init 2 2 1 700 o [.ref a, vi (N : Int)] (ws0 ++ [(a, .inr (0, zB))]) (fun ws' => ∃ q, ws' = ws0 ++ [cB_ a q, cI_ G q N]) := by
  refine KC.intro (by decide) rfl rfl (by decide) (Nat.le_of_ble_eq_true rfl) (fun X hX h he => ?_)
  refine nn_aload_n h d_B_init_0 rfl ⟨_, rfl⟩ ?_
  refine nn_obj h ko_B rfl (Nat.le_of_ble_eq_true rfl) d_B_init_1 ?_
  refine nn_aload_n h d_B_init_4 rfl ⟨_, rfl⟩ ?_
  refine nn_iload_n h d_B_init_5 rfl ?_
  refine nn_newa h (N := N) ka_int rfl (by omega) (nn_ro he (by omega) (by omega)) d_B_init_6 (fun q => ?_)
  rw [List.append_assoc]
  refine nn_putF h (nn_i he) (q0 := ws0.length + 0) (kf := 0) (t0 := tf_B) (ty := .array .int) ((wa_get 0).trans rfl) rfl (Nat.le_of_ble_eq_true rfl) fl_B_9 ty_B nm_B rfl rfl (by decide +kernel) rfl rfl d_B_init_8 ?_
  rw [wa_set]
  refine nn_aload_n h d_B_init_11 rfl ⟨_, rfl⟩ ?_
  refine nn_iconst h d_B_init_12 ?_
  refine nn_put h (q0 := ws0.length + 0) (kf := 1) (t0 := tf_B) (ty := .int) ((wa_get 0).trans rfl) rfl (Nat.le_of_ble_eq_true rfl) fl_B_15 ⟨ty_B, nm_B, rfl⟩ (by decide +kernel) (by decide) (by decide) d_B_init_13 ?_
  rw [wa_set]
  refine nn_aload_n h d_B_init_16 rfl ⟨_, rfl⟩ ?_
  refine nn_iconst h d_B_init_17 ?_
  refine nn_put h (q0 := ws0.length + 0) (kf := 2) (t0 := tf_B) (ty := .boolean) ((wa_get 0).trans rfl) rfl (Nat.le_of_ble_eq_true rfl) fl_B_19 ⟨ty_B, nm_B, rfl⟩ (by decide +kernel) (by decide) (by decide) d_B_init_18 ?_
  rw [wa_set]
  exact nn_ret h he (by omega) (by omega) d_B_init_21 ⟨q, rfl⟩
theorem kF_init {G : mt_G} {l : Launch} {o a : Nat} {ws : va_W} : KC G l y_F_init c_F_init 1 2 0 0 o [.ref a] ws (fun ws' => ws' = ws) := by
  refine KC.intro (by decide) rfl rfl (by decide) (Nat.le_of_ble_eq_true rfl) (fun X hX h he => ?_)
  refine nn_aload_n h d_F_init_0 rfl ⟨_, rfl⟩ ?_
  refine nn_obj h ko_F rfl (Nat.le_of_ble_eq_true rfl) d_F_init_1 ?_
  exact nn_ret h he (Nat.le_refl _) (Nat.le_refl _) d_F_init_4 rfl
theorem kS_init {G : mt_G} {l : Launch} {o a b : Nat} {ws0 : va_W} : KC G l y_S_init c_S_init 2 3 2 703 o [.ref a, .ref b] (ws0 ++ [(a, .inr (5, [.null, .null, vi 0, vi 0, vi 0]))]) (fun ws' => ∃ v q, ws' = ws0 ++ [(a, .inr (5, [.ref b, .ref v, vi 0, vi 0, vi 0])), cB_ v q, cI_ G q 320]) := by
  refine KC.intro (by decide) rfl rfl (by decide) (Nat.le_of_ble_eq_true rfl) (fun X hX h he => ?_)
  refine nn_aload_n h d_S_init_0 rfl ⟨_, rfl⟩ ?_
  refine nn_obj h ko_S rfl (Nat.le_of_ble_eq_true rfl) d_S_init_1 ?_
  refine nn_aload_n h d_S_init_4 rfl ⟨_, rfl⟩ ?_
  refine nn_aload_n h d_S_init_5 rfl ⟨_, rfl⟩ ?_
  refine nn_putF h (nn_i he) (q0 := ws0.length + 0) (kf := 0) (t0 := tf_S) (ty := .object R_B) ((wa_get 0).trans rfl) rfl (Nat.le_of_ble_eq_true rfl) fl_S_9 ty_S nm_S rfl rfl (by decide +kernel) rfl rfl d_S_init_6 ?_
  rw [wa_set]
  refine nn_aload_n h d_S_init_9 rfl ⟨_, rfl⟩ ?_
  refine nn_new h (ci := 0) tf_B ty_B uw_B kl_S_15 ki_B kj_B rfl hf_B (nn_ro he (by omega) (by omega)) d_S_init_10 (fun q10 => ?_)
  refine nn_dup h d_S_init_13 rfl ?_
  refine nn_sipush h d_S_init_14 (by decide) ?_
  refine nn_init h (kB_init (N := 320) (by decide)) wm_S_17 kn_B wc_B_init kj_B ⟨rfl, by decide, by decide, by decide +kernel⟩ (rx_of he (by decide) (by decide) (by omega) (by omega)) rfl rfl rfl (Nat.le_of_ble_eq_true rfl) d_S_init_17 (fun ws9 hw9 => ?_)
  obtain ⟨q17, rfl⟩ := hw9
  rw [List.append_assoc]
  refine nn_putF h (nn_i he) (q0 := ws0.length + 0) (kf := 1) (t0 := tf_S) (ty := .object R_B) ((wa_get 0).trans rfl) rfl (Nat.le_of_ble_eq_true rfl) fl_S_20 ty_S nm_S rfl rfl (by decide +kernel) rfl rfl d_S_init_20 ?_
  rw [wa_set]
  exact nn_ret h he (by omega) (by omega) d_S_init_23 ⟨q10, q17, rfl⟩
theorem kD_init {G : mt_G} {l : Launch} {o a b c : Nat} {ws0 : va_W} : KC G l y_D_init c_D_init 3 2 0 0 o [.ref a, .ref b, .ref c] (ws0 ++ [(a, .inr (1, [.null, .null]))]) (fun ws' => ws' = ws0 ++ [(a, .inr (1, [.ref b, .ref c]))]) := by
  refine KC.intro (by decide) rfl rfl (by decide) (Nat.le_of_ble_eq_true rfl) (fun X hX h he => ?_)
  refine nn_aload_n h d_D_init_0 rfl ⟨_, rfl⟩ ?_
  refine nn_obj h ko_D rfl (Nat.le_of_ble_eq_true rfl) d_D_init_1 ?_
  refine nn_aload_n h d_D_init_4 rfl ⟨_, rfl⟩ ?_
  refine nn_aload_n h d_D_init_5 rfl ⟨_, rfl⟩ ?_
  refine nn_putF h (nn_i he) (q0 := ws0.length + 0) (kf := 0) (t0 := tf_D) (ty := .object R_B) ((wa_get 0).trans rfl) rfl (Nat.le_of_ble_eq_true rfl) fl_D_9 ty_D nm_D rfl rfl (by decide +kernel) rfl rfl d_D_init_6 ?_
  rw [wa_set]
  refine nn_aload_n h d_D_init_9 rfl ⟨_, rfl⟩ ?_
  refine nn_aload_n h d_D_init_10 rfl ⟨_, rfl⟩ ?_
  refine nn_putF h (nn_i he) (q0 := ws0.length + 0) (kf := 1) (t0 := tf_D) (ty := .object R_B) ((wa_get 0).trans rfl) rfl (Nat.le_of_ble_eq_true rfl) fl_D_15 ty_D nm_D rfl rfl (by decide +kernel) rfl rfl d_D_init_11 ?_
  rw [wa_set]
  exact nn_ret h he (Nat.le_refl _) (Nat.le_refl _) d_D_init_14 rfl
theorem kP_init {G : mt_G} {l : Launch} {o a b : Nat} {ws0 : va_W} : KC G l y_P_init c_P_init 2 3 2 703 o [.ref a, .ref b] (ws0 ++ [(a, .inr (4, [.null, .null]))]) (fun ws' => ∃ v q, ws' = ws0 ++ [(a, .inr (4, [.ref b, .ref v])), cB_ v q, cI_ G q 700]) := by
  refine KC.intro (by decide) rfl rfl (by decide) (Nat.le_of_ble_eq_true rfl) (fun X hX h he => ?_)
  refine nn_aload_n h d_P_init_0 rfl ⟨_, rfl⟩ ?_
  refine nn_obj h ko_P rfl (Nat.le_of_ble_eq_true rfl) d_P_init_1 ?_
  refine nn_aload_n h d_P_init_4 rfl ⟨_, rfl⟩ ?_
  refine nn_aload_n h d_P_init_5 rfl ⟨_, rfl⟩ ?_
  refine nn_putF h (nn_i he) (q0 := ws0.length + 0) (kf := 0) (t0 := tf_P) (ty := .object R_T) ((wa_get 0).trans rfl) rfl (Nat.le_of_ble_eq_true rfl) fl_P_9 ty_P nm_P rfl rfl (by decide +kernel) rfl rfl d_P_init_6 ?_
  rw [wa_set]
  refine nn_aload_n h d_P_init_9 rfl ⟨_, rfl⟩ ?_
  refine nn_new h (ci := 0) tf_B ty_B uw_B kl_P_15 ki_B kj_B rfl hf_B (nn_ro he (by omega) (by omega)) d_P_init_10 (fun q10 => ?_)
  refine nn_dup h d_P_init_13 rfl ?_
  refine nn_sipush h d_P_init_14 (by decide) ?_
  refine nn_init h (kB_init (N := 700) (by decide)) wm_P_17 kn_B wc_B_init kj_B ⟨rfl, by decide, by decide, by decide +kernel⟩ (rx_of he (by decide) (by decide) (by omega) (by omega)) rfl rfl rfl (Nat.le_of_ble_eq_true rfl) d_P_init_17 (fun ws9 hw9 => ?_)
  obtain ⟨q17, rfl⟩ := hw9
  rw [List.append_assoc]
  refine nn_putF h (nn_i he) (q0 := ws0.length + 0) (kf := 1) (t0 := tf_P) (ty := .object R_B) ((wa_get 0).trans rfl) rfl (Nat.le_of_ble_eq_true rfl) fl_P_20 ty_P nm_P rfl rfl (by decide +kernel) rfl rfl d_P_init_20 ?_
  rw [wa_set]
  exact nn_ret h he (by omega) (by omega) d_P_init_23 ⟨q10, q17, rfl⟩
theorem kM_init {G : mt_G} {l : Launch} {o a : Nat} {ws0 : va_W} : KC G l y_M_init c_M_init 1 2 11 7120 o [.ref a] (ws0 ++ [(a, .inr (8, [vi 0, vi 0, .null, vi 0, .null, vi 0, .null, .null, .null, vi 0, vi 0, .null, .null, vi 0, vi 0, vi 0, vi 0, vi 0, .null, vi 0, vi 0, .null, vi 0, .null, .null]))]) (fun ws' => ∃ q : Nat → Nat, ws' = ws0 ++ [(a, .inr (8, [vi 0, vi 0, .ref (q 0), vi 0, .ref (q 1), vi 0, .ref (q 2), .ref (q 3), .ref (q 4), vi 0, vi 0, .ref (q 5), .ref (q 6), vi 0, vi 0, vi 0, vi 0, vi 0, .ref (q 7), vi 0, vi 0, .ref (q 8), vi 0, .ref (q 9), .ref (q 10)])), cI_ G (q 0) 320, cI_ G (q 1) 320, cI_ G (q 2) 256, cI_ G (q 3) 512, cI_ G (q 4) 1400, cI_ G (q 5) 1400, cI_ G (q 6) 400, cI_ G (q 7) 1800, cI_ G (q 8) 700, cI_ G (q 9) 6, cI_ G (q 10) 6]) := by
  refine KC.intro (by decide) rfl rfl (by decide) (Nat.le_of_ble_eq_true rfl) (fun X hX h he => ?_)
  refine nn_aload_n h d_M_init_0 rfl ⟨_, rfl⟩ ?_
  refine nn_obj h ko_M rfl (Nat.le_of_ble_eq_true rfl) d_M_init_1 ?_
  refine nn_aload_n h d_M_init_4 rfl ⟨_, rfl⟩ ?_
  refine nn_sipush h d_M_init_5 (by decide) ?_
  refine nn_newa h (N := 320) ka_int rfl (by omega) (nn_ro he (by omega) (by omega)) d_M_init_8 (fun q0 => ?_)
  rw [List.append_assoc]
  refine nn_putF h (nn_i he) (q0 := ws0.length + 0) (kf := 2) (t0 := tf_M) (ty := .array .int) ((wa_get 0).trans rfl) rfl (Nat.le_of_ble_eq_true rfl) fl_M_7 ty_M nm_M rfl rfl (by decide +kernel) rfl rfl d_M_init_10 ?_
  rw [wa_set]
  simp only [List.set_cons_zero, List.set_cons_succ, List.cons_append, List.nil_append]
  refine nn_aload_n h d_M_init_13 rfl ⟨_, rfl⟩ ?_
  refine nn_sipush h d_M_init_14 (by decide) ?_
  refine nn_newa h (N := 320) ka_int rfl (by omega) (nn_ro he (by omega) (by omega)) d_M_init_17 (fun q1 => ?_)
  rw [List.append_assoc]
  refine nn_putF h (nn_i he) (q0 := ws0.length + 0) (kf := 4) (t0 := tf_M) (ty := .array .int) ((wa_get 0).trans rfl) rfl (Nat.le_of_ble_eq_true rfl) fl_M_13 ty_M nm_M rfl rfl (by decide +kernel) rfl rfl d_M_init_19 ?_
  rw [wa_set]
  simp only [List.set_cons_zero, List.set_cons_succ, List.cons_append, List.nil_append]
  refine nn_aload_n h d_M_init_22 rfl ⟨_, rfl⟩ ?_
  refine nn_sipush h d_M_init_23 (by decide) ?_
  refine nn_newa h (N := 256) ka_int rfl (by omega) (nn_ro he (by omega) (by omega)) d_M_init_26 (fun q2 => ?_)
  rw [List.append_assoc]
  refine nn_putF h (nn_i he) (q0 := ws0.length + 0) (kf := 6) (t0 := tf_M) (ty := .array .int) ((wa_get 0).trans rfl) rfl (Nat.le_of_ble_eq_true rfl) fl_M_16 ty_M nm_M rfl rfl (by decide +kernel) rfl rfl d_M_init_28 ?_
  rw [wa_set]
  simp only [List.set_cons_zero, List.set_cons_succ, List.cons_append, List.nil_append]
  refine nn_aload_n h d_M_init_31 rfl ⟨_, rfl⟩ ?_
  refine nn_sipush h d_M_init_32 (by decide) ?_
  refine nn_newa h (N := 512) ka_int rfl (by omega) (nn_ro he (by omega) (by omega)) d_M_init_35 (fun q3 => ?_)
  rw [List.append_assoc]
  refine nn_putF h (nn_i he) (q0 := ws0.length + 0) (kf := 7) (t0 := tf_M) (ty := .array .int) ((wa_get 0).trans rfl) rfl (Nat.le_of_ble_eq_true rfl) fl_M_19 ty_M nm_M rfl rfl (by decide +kernel) rfl rfl d_M_init_37 ?_
  rw [wa_set]
  simp only [List.set_cons_zero, List.set_cons_succ, List.cons_append, List.nil_append]
  refine nn_aload_n h d_M_init_40 rfl ⟨_, rfl⟩ ?_
  refine nn_sipush h d_M_init_41 (by decide) ?_
  refine nn_newa h (N := 1400) ka_int rfl (by omega) (nn_ro he (by omega) (by omega)) d_M_init_44 (fun q4 => ?_)
  rw [List.append_assoc]
  refine nn_putF h (nn_i he) (q0 := ws0.length + 0) (kf := 8) (t0 := tf_M) (ty := .array .int) ((wa_get 0).trans rfl) rfl (Nat.le_of_ble_eq_true rfl) fl_M_22 ty_M nm_M rfl rfl (by decide +kernel) rfl rfl d_M_init_46 ?_
  rw [wa_set]
  simp only [List.set_cons_zero, List.set_cons_succ, List.cons_append, List.nil_append]
  refine nn_aload_n h d_M_init_49 rfl ⟨_, rfl⟩ ?_
  refine nn_sipush h d_M_init_50 (by decide) ?_
  refine nn_newa h (N := 1400) ka_int rfl (by omega) (nn_ro he (by omega) (by omega)) d_M_init_53 (fun q5 => ?_)
  rw [List.append_assoc]
  refine nn_putF h (nn_i he) (q0 := ws0.length + 0) (kf := 11) (t0 := tf_M) (ty := .array .int) ((wa_get 0).trans rfl) rfl (Nat.le_of_ble_eq_true rfl) fl_M_25 ty_M nm_M rfl rfl (by decide +kernel) rfl rfl d_M_init_55 ?_
  rw [wa_set]
  simp only [List.set_cons_zero, List.set_cons_succ, List.cons_append, List.nil_append]
  refine nn_aload_n h d_M_init_58 rfl ⟨_, rfl⟩ ?_
  refine nn_sipush h d_M_init_59 (by decide) ?_
  refine nn_newa h (N := 400) ka_int rfl (by omega) (nn_ro he (by omega) (by omega)) d_M_init_62 (fun q6 => ?_)
  rw [List.append_assoc]
  refine nn_putF h (nn_i he) (q0 := ws0.length + 0) (kf := 12) (t0 := tf_M) (ty := .array .int) ((wa_get 0).trans rfl) rfl (Nat.le_of_ble_eq_true rfl) fl_M_28 ty_M nm_M rfl rfl (by decide +kernel) rfl rfl d_M_init_64 ?_
  rw [wa_set]
  simp only [List.set_cons_zero, List.set_cons_succ, List.cons_append, List.nil_append]
  refine nn_aload_n h d_M_init_67 rfl ⟨_, rfl⟩ ?_
  refine nn_sipush h d_M_init_68 (by decide) ?_
  refine nn_newa h (N := 1800) ka_int rfl (by omega) (nn_ro he (by omega) (by omega)) d_M_init_71 (fun q7 => ?_)
  rw [List.append_assoc]
  refine nn_putF h (nn_i he) (q0 := ws0.length + 0) (kf := 18) (t0 := tf_M) (ty := .array .int) ((wa_get 0).trans rfl) rfl (Nat.le_of_ble_eq_true rfl) fl_M_31 ty_M nm_M rfl rfl (by decide +kernel) rfl rfl d_M_init_73 ?_
  rw [wa_set]
  simp only [List.set_cons_zero, List.set_cons_succ, List.cons_append, List.nil_append]
  refine nn_aload_n h d_M_init_76 rfl ⟨_, rfl⟩ ?_
  refine nn_sipush h d_M_init_77 (by decide) ?_
  refine nn_newa h (N := 700) ka_int rfl (by omega) (nn_ro he (by omega) (by omega)) d_M_init_80 (fun q8 => ?_)
  rw [List.append_assoc]
  refine nn_putF h (nn_i he) (q0 := ws0.length + 0) (kf := 21) (t0 := tf_M) (ty := .array .int) ((wa_get 0).trans rfl) rfl (Nat.le_of_ble_eq_true rfl) fl_M_34 ty_M nm_M rfl rfl (by decide +kernel) rfl rfl d_M_init_82 ?_
  rw [wa_set]
  simp only [List.set_cons_zero, List.set_cons_succ, List.cons_append, List.nil_append]
  refine nn_aload_n h d_M_init_85 rfl ⟨_, rfl⟩ ?_
  refine nn_bipush h d_M_init_86 (by decide) ?_
  refine nn_newa h (N := 6) ka_int rfl (by omega) (nn_ro he (by omega) (by omega)) d_M_init_88 (fun q9 => ?_)
  rw [List.append_assoc]
  refine nn_putF h (nn_i he) (q0 := ws0.length + 0) (kf := 23) (t0 := tf_M) (ty := .array .int) ((wa_get 0).trans rfl) rfl (Nat.le_of_ble_eq_true rfl) fl_M_37 ty_M nm_M rfl rfl (by decide +kernel) rfl rfl d_M_init_90 ?_
  rw [wa_set]
  simp only [List.set_cons_zero, List.set_cons_succ, List.cons_append, List.nil_append]
  refine nn_aload_n h d_M_init_93 rfl ⟨_, rfl⟩ ?_
  refine nn_bipush h d_M_init_94 (by decide) ?_
  refine nn_newa h (N := 6) ka_int rfl (by omega) (nn_ro he (by omega) (by omega)) d_M_init_96 (fun q10 => ?_)
  rw [List.append_assoc]
  refine nn_putF h (nn_i he) (q0 := ws0.length + 0) (kf := 24) (t0 := tf_M) (ty := .array .int) ((wa_get 0).trans rfl) rfl (Nat.le_of_ble_eq_true rfl) fl_M_40 ty_M nm_M rfl rfl (by decide +kernel) rfl rfl d_M_init_98 ?_
  rw [wa_set]
  simp only [List.set_cons_zero, List.set_cons_succ, List.cons_append, List.nil_append]
  exact nn_ret h he (by omega) (by omega) d_M_init_101 ⟨fun j => if j = 0 then q0 else if j = 1 then q1 else if j = 2 then q2 else if j = 3 then q3 else if j = 4 then q4 else if j = 5 then q5 else if j = 6 then q6 else if j = 7 then q7 else if j = 8 then q8 else if j = 9 then q9 else if j = 10 then q10 else 0, rfl⟩
