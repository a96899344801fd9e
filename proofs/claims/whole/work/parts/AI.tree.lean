/-! The constructors: Tree, MailTree. -/
theorem wa_get2 {ws0 l r : va_W} (j : Nat) : ((ws0 ++ l) ++ r)[ws0.length + j]? = (l ++ r)[j]? := by rw [List.append_assoc, wa_get]
abbrev mt_A : Type := Nat → Nat × Nat × (Nat → Nat)
def EB (G : mt_G) (i : Nat) (A : mt_A) : va_W := ((List.range i).map (fun j => EW G (A j).1 (A j).2.1 8 (A j).2.2)).flatten
def au (A : mt_A) (i : Nat) (x : Nat × Nat × (Nat → Nat)) : mt_A := fun j => if j = i then x else A j
theorem EB_step (G : mt_G) (i : Nat) (A : mt_A) (v q : Nat) (g : Nat → Nat) : EB G i A ++ EW G v q 8 g = EB G (i + 1) (au A i (v, q, g)) := by
  unfold EB
  rw [List.range_succ, List.map_append, List.flatten_append]
  have e1 : (List.range i).map (fun j => EW G (A j).1 (A j).2.1 8 (A j).2.2) = (List.range i).map (fun j => EW G (au A i (v, q, g) j).1 (au A i (v, q, g) j).2.1 8 (au A i (v, q, g) j).2.2) := List.map_congr_left (fun x hx => by
    have : x < i := List.mem_range.mp hx
    unfold au; rw [if_neg (by omega)])
  rw [e1]
  congr 1
  show _ = EW G (au A i (v, q, g) i).1 (au A i (v, q, g) i).2.1 8 (au A i (v, q, g) i).2.2 ++ []
  unfold au
  rw [if_pos rfl, List.append_nil]
theorem EB_len (G : mt_G) (A : mt_A) : ∀ i : Nat, (EB G i A).length = 10 * i
  | 0 => rfl
  | i + 1 => by
    have e : EB G (i + 1) A = EB G i A ++ EW G (A i).1 (A i).2.1 8 (A i).2.2 := by
      unfold EB
      rw [List.range_succ, List.map_append, List.flatten_append]
      congr 1
    rw [e, List.length_append, EB_len G A i, EW_len]; omega
def TB (G : mt_G) (a : Nat) (v : Nat → Nat) : va_W := [(a, .inr (6, [.ref (v 0), .ref (v 2), .ref (v 4), .ref (v 6), .ref (v 12), .ref (v 8), .ref (v 11), vi 0])), cB_ (v 0) (v 1), cI_ G (v 1) 320, cB_ (v 2) (v 3), cI_ G (v 3) 320, cB_ (v 4) (v 5), cI_ G (v 5) 320, cB_ (v 6) (v 7), cI_ G (v 7) 320, (v 8, .inr (5, [.ref (v 2), .ref (v 9), vi 0, vi 0, vi 0])), cB_ (v 9) (v 10), cI_ G (v 10) 320, (v 11, .inr (1, [.ref (v 0), .ref (v 4)]))]
def EA (G : mt_G) (q i : Nat) (A : mt_A) : Nat × va_E := (q, .inl (G.2.2.1 2, 16, .inr (.inr (.inr (.inr (ei i (fun j => (A j).1)))))))
def TT (G : mt_G) (a : Nat) (v : Nat → Nat) (i : Nat) (A : mt_A) : va_W := TB G a v ++ (EA G (v 12) i A :: EB G i A)
theorem TT_last (G : mt_G) (a i w q : Nat) (v : Nat → Nat) (A : mt_A) (g : Nat → Nat) (x : Nat × va_E) : (TB G a v ++ (x :: (EB G i A ++ EW G w q 8 g)))[14 + 10 * i]? = some (w, .inr (2, [vi 0, vi 0, vi 0, vi 0, vi 0, vi 0, vi 0, vi 0, vi 0, vi 0, vi 0, vi 0, vi 0, .ref q])) := by
  have hl : (TB G a v).length = 13 := rfl
  rw [List.getElem?_append_right (by omega), hl, show 14 + 10 * i - 13 = 10 * i + 1 by omega, List.getElem?_cons_succ, List.getElem?_append_right (by rw [EB_len]; omega), EB_len, Nat.sub_self]
  rfl
theorem TT_step (G : mt_G) (a i w q : Nat) (v : Nat → Nat) (A : mt_A) (g : Nat → Nat) : (TB G a v ++ (EA G (v 12) i A :: (EB G i A ++ EW G w q 8 g))).set 13 (v 12, .inl (G.2.2.1 2, 16, .inr (.inr (.inr (.inr (va_up (ei i (fun j => (A j).1)) i (some w))))))) = TT G a v (i + 1) (au A i (w, q, g)) := by
  have e1 : ei (i + 1) (fu (fun j => (A j).1) i w) = ei (i + 1) (fun j => (au A i (w, q, g) j).1) := by
    congr 1
    funext j
    unfold fu au
    by_cases e : j = i
    · rw [if_pos e, if_pos e]
    · rw [if_neg e, if_neg e]
  rw [ei_up, e1, EB_step]
  rfl
set_option maxHeartbeats 4000000 in
theorem kT_loop {G : mt_G} {X : mt_X} {o a : Nat} {v : Nat → Nat} {ws0 : va_W} {Po : va_W → Prop} (h : ON G X c_T_init R_T 2 o) (he : OKc G X 4 173 4402 o Po) (hp : ∀ A, Po (ws0 ++ TT G a v 16 A)) : ∀ (j i : Nat) (A : mt_A) (k n : Nat), i + j = 16 → k ≤ 13 + 10 * i → n ≤ 3538 + 54 * i → NN G X o k n (ws0 ++ TT G a v i A) 105 [some (.ref a), some (vi (i : Int))] [] := by
  intro j
  induction j with
  | zero =>
    intro i A k n hi hk hn
    have e8 : i = 16 := by omega
    subst e8
    refine nn_iload_n h d_T_init_105 rfl ?_
    refine nn_bipush h d_T_init_106 (by decide) ?_
    refine nn_icmp_ge h 130 d_T_init_108 (by decide) ⟨by omega, by omega⟩ ⟨by omega, by omega⟩ (fun _ => ?_) (fun q108 => absurd (by omega) q108)
    refine nn_aload_n h d_T_init_130 rfl ⟨_, rfl⟩ ?_
    refine nn_iconst h d_T_init_131 ?_
    refine nn_put h (q0 := ws0.length + 0) (kf := 7) (t0 := tf_T) (ty := .int) ((wa_get 0).trans rfl) rfl (Nat.le_of_ble_eq_true rfl) fl_T_54 ⟨ty_T, nm_T, rfl⟩ (by decide +kernel) (by decide) (by decide) d_T_init_132 ?_
    rw [wa_set]
    exact nn_ret h he (by omega) (by omega) d_T_init_135 (hp A)
  | succ j ih =>
    intro i A k n hi hk hn
    have e9 : ((i : Int) + 1) = ((i + 1 : Nat) : Int) := by omega
    refine nn_iload_n h d_T_init_105 rfl ?_
    refine nn_bipush h d_T_init_106 (by decide) ?_
    refine nn_icmp_ge h 130 d_T_init_108 (by decide) ⟨by omega, by omega⟩ ⟨by omega, by omega⟩ (fun q108 => absurd q108 (by omega)) (fun _ => ?_)
    refine nn_aload_n h d_T_init_111 rfl ⟨_, rfl⟩ ?_
    refine nn_get h (q0 := ws0.length + 0) (kf := 4) ((wa_get 0).trans rfl) rfl rfl fl_T_49 d_T_init_112 ?_
    refine nn_iload_n h d_T_init_115 rfl ?_
    refine nn_new h (ci := 2) tf_E ty_E uw_E kl_T_47 ki_E kj_E rfl hf_E (nn_ro he (by omega) (by omega)) d_T_init_116 (fun w => ?_)
    refine nn_dup h d_T_init_119 rfl ?_
    refine nn_init h (np := 0) (kE_init) wm_T_53 kn_E wc_E_init kj_E ⟨rfl, by decide, by decide, by decide +kernel⟩ (rx_of he (by decide) (by decide) (by omega) (by omega)) rfl rfl rfl (Nat.le_of_ble_eq_true rfl) d_T_init_120 (fun ws9 hw9 => ?_)
    obtain ⟨q, g, rfl⟩ := hw9
    unfold TT
    rw [List.append_assoc, List.append_assoc, List.cons_append]
    refine nn_ast h (q0 := ws0.length + 13) (t0 := 2) (qk := ws0.length + (14 + 10 * i)) (ci := 2) (r := (R_E, T_E, 14)) ((wa_get 13).trans rfl) rfl ((wa_get (14 + 10 * i)).trans (TT_last G a i w q v A g _)) rfl (by decide) (by omega) (by omega) d_T_init_123 ?_
    rw [wa_set, Int.toNat_natCast, TT_step]
    refine nn_iinc h d_T_init_124 rfl rfl ?_
    rw [e9]
    refine nn_goto h 105 d_T_init_127 (by decide) ?_
    exact ih (i + 1) (au A i (w, q, g)) _ _ (by omega) (by omega) (by omega)
set_option maxHeartbeats 4000000 in
theorem kT_init {G : mt_G} {l : Launch} {o a : Nat} {ws0 : va_W} : KC G l y_T_init c_T_init 2 4 173 4402 o [.ref a] (ws0 ++ [(a, .inr (6, [.null, .null, .null, .null, .null, .null, .null, vi 0]))]) (fun ws' => ∃ v A, ws' = ws0 ++ TT G a v 16 A) := by
  refine KC.intro (by decide) rfl rfl (by decide) (Nat.le_of_ble_eq_true rfl) (fun X hX h he => ?_)
  refine nn_aload_n h d_T_init_0 rfl ⟨_, rfl⟩ ?_
  refine nn_obj h ko_T rfl (Nat.le_of_ble_eq_true rfl) d_T_init_1 ?_
  refine nn_aload_n h d_T_init_4 rfl ⟨_, rfl⟩ ?_
  refine nn_new h (ci := 0) tf_B ty_B uw_B kl_T_9 ki_B kj_B rfl hf_B (nn_ro he (by omega) (by omega)) d_T_init_5 (fun q5 => ?_)
  refine nn_dup h d_T_init_8 rfl ?_
  refine nn_sipush h d_T_init_9 (by decide) ?_
  refine nn_init h (np := 1) (kB_init (N := 320) (by decide)) wm_T_11 kn_B wc_B_init kj_B ⟨rfl, by decide, by decide, by decide +kernel⟩ (rx_of he (by decide) (by decide) (by omega) (by omega)) rfl rfl rfl (Nat.le_of_ble_eq_true rfl) d_T_init_12 (fun ws9 hw9 => ?_)
  obtain ⟨q12, rfl⟩ := hw9
  rw [List.append_assoc]
  refine nn_putF h (nn_i he) (q0 := ws0.length + 0) (kf := 0) (t0 := tf_T) (ty := .object R_B) ((wa_get 0).trans rfl) rfl (Nat.le_of_ble_eq_true rfl) fl_T_14 ty_T nm_T rfl rfl (by decide +kernel) rfl rfl d_T_init_15 ?_
  rw [wa_set]
  simp only [List.set_cons_zero, List.set_cons_succ, List.cons_append, List.nil_append]
  refine nn_aload_n h d_T_init_18 rfl ⟨_, rfl⟩ ?_
  refine nn_new h (ci := 0) tf_B ty_B uw_B kl_T_9 ki_B kj_B rfl hf_B (nn_ro he (by omega) (by omega)) d_T_init_19 (fun q19 => ?_)
  refine nn_dup h d_T_init_22 rfl ?_
  refine nn_sipush h d_T_init_23 (by decide) ?_
  refine nn_init h (np := 1) (kB_init (N := 320) (by decide)) wm_T_11 kn_B wc_B_init kj_B ⟨rfl, by decide, by decide, by decide +kernel⟩ (rx_of he (by decide) (by decide) (by omega) (by omega)) rfl rfl rfl (Nat.le_of_ble_eq_true rfl) d_T_init_26 (fun ws9 hw9 => ?_)
  obtain ⟨q26, rfl⟩ := hw9
  rw [List.append_assoc]
  refine nn_putF h (nn_i he) (q0 := ws0.length + 0) (kf := 1) (t0 := tf_T) (ty := .object R_B) ((wa_get 0).trans rfl) rfl (Nat.le_of_ble_eq_true rfl) fl_T_20 ty_T nm_T rfl rfl (by decide +kernel) rfl rfl d_T_init_29 ?_
  rw [wa_set]
  simp only [List.set_cons_zero, List.set_cons_succ, List.cons_append, List.nil_append]
  refine nn_aload_n h d_T_init_32 rfl ⟨_, rfl⟩ ?_
  refine nn_new h (ci := 0) tf_B ty_B uw_B kl_T_9 ki_B kj_B rfl hf_B (nn_ro he (by omega) (by omega)) d_T_init_33 (fun q33 => ?_)
  refine nn_dup h d_T_init_36 rfl ?_
  refine nn_sipush h d_T_init_37 (by decide) ?_
  refine nn_init h (np := 1) (kB_init (N := 320) (by decide)) wm_T_11 kn_B wc_B_init kj_B ⟨rfl, by decide, by decide, by decide +kernel⟩ (rx_of he (by decide) (by decide) (by omega) (by omega)) rfl rfl rfl (Nat.le_of_ble_eq_true rfl) d_T_init_40 (fun ws9 hw9 => ?_)
  obtain ⟨q40, rfl⟩ := hw9
  rw [List.append_assoc]
  refine nn_putF h (nn_i he) (q0 := ws0.length + 0) (kf := 2) (t0 := tf_T) (ty := .object R_B) ((wa_get 0).trans rfl) rfl (Nat.le_of_ble_eq_true rfl) fl_T_23 ty_T nm_T rfl rfl (by decide +kernel) rfl rfl d_T_init_43 ?_
  rw [wa_set]
  simp only [List.set_cons_zero, List.set_cons_succ, List.cons_append, List.nil_append]
  refine nn_aload_n h d_T_init_46 rfl ⟨_, rfl⟩ ?_
  refine nn_new h (ci := 0) tf_B ty_B uw_B kl_T_9 ki_B kj_B rfl hf_B (nn_ro he (by omega) (by omega)) d_T_init_47 (fun q47 => ?_)
  refine nn_dup h d_T_init_50 rfl ?_
  refine nn_sipush h d_T_init_51 (by decide) ?_
  refine nn_init h (np := 1) (kB_init (N := 320) (by decide)) wm_T_11 kn_B wc_B_init kj_B ⟨rfl, by decide, by decide, by decide +kernel⟩ (rx_of he (by decide) (by decide) (by omega) (by omega)) rfl rfl rfl (Nat.le_of_ble_eq_true rfl) d_T_init_54 (fun ws9 hw9 => ?_)
  obtain ⟨q54, rfl⟩ := hw9
  rw [List.append_assoc]
  refine nn_putF h (nn_i he) (q0 := ws0.length + 0) (kf := 3) (t0 := tf_T) (ty := .object R_B) ((wa_get 0).trans rfl) rfl (Nat.le_of_ble_eq_true rfl) fl_T_26 ty_T nm_T rfl rfl (by decide +kernel) rfl rfl d_T_init_57 ?_
  rw [wa_set]
  simp only [List.set_cons_zero, List.set_cons_succ, List.cons_append, List.nil_append]
  refine nn_aload_n h d_T_init_60 rfl ⟨_, rfl⟩ ?_
  refine nn_new h (ci := 5) tf_S ty_S uw_S kl_T_29 ki_S kj_S rfl hf_S (nn_ro he (by omega) (by omega)) d_T_init_61 (fun q61 => ?_)
  refine nn_dup h d_T_init_64 rfl ?_
  refine nn_aload_n h d_T_init_65 rfl ⟨_, rfl⟩ ?_
  refine nn_get h (q0 := ws0.length + 0) (kf := 1) ((wa_get2 0).trans rfl) rfl rfl fl_T_20 d_T_init_66 ?_
  refine nn_init h (np := 1) (kS_init) wm_T_31 kn_S wc_S_init kj_S ⟨rfl, by decide, by decide, by decide +kernel⟩ (rx_of he (by decide) (by decide) (by omega) (by omega)) rfl rfl rfl (Nat.le_of_ble_eq_true rfl) d_T_init_69 (fun ws9 hw9 => ?_)
  obtain ⟨p69, q69, rfl⟩ := hw9
  rw [List.append_assoc]
  refine nn_putF h (nn_i he) (q0 := ws0.length + 0) (kf := 5) (t0 := tf_T) (ty := .object R_S) ((wa_get 0).trans rfl) rfl (Nat.le_of_ble_eq_true rfl) fl_T_34 ty_T nm_T rfl rfl (by decide +kernel) rfl rfl d_T_init_72 ?_
  rw [wa_set]
  simp only [List.set_cons_zero, List.set_cons_succ, List.cons_append, List.nil_append]
  refine nn_aload_n h d_T_init_75 rfl ⟨_, rfl⟩ ?_
  refine nn_new h (ci := 1) tf_D ty_D uw_D kl_T_38 ki_D kj_D rfl hf_D (nn_ro he (by omega) (by omega)) d_T_init_76 (fun q76 => ?_)
  refine nn_dup h d_T_init_79 rfl ?_
  refine nn_aload_n h d_T_init_80 rfl ⟨_, rfl⟩ ?_
  refine nn_get h (q0 := ws0.length + 0) (kf := 0) ((wa_get2 0).trans rfl) rfl rfl fl_T_14 d_T_init_81 ?_
  refine nn_aload_n h d_T_init_84 rfl ⟨_, rfl⟩ ?_
  refine nn_get h (q0 := ws0.length + 0) (kf := 2) ((wa_get2 0).trans rfl) rfl rfl fl_T_23 d_T_init_85 ?_
  refine nn_init h (np := 2) (kD_init) wm_T_40 kn_D wc_D_init kj_D ⟨rfl, by decide, by decide, by decide +kernel⟩ (rx_of he (by decide) (by decide) (by omega) (by omega)) rfl rfl rfl (Nat.le_of_ble_eq_true rfl) d_T_init_88 (fun ws9 hw9 => ?_)
  subst hw9
  rw [List.append_assoc]
  refine nn_putF h (nn_i he) (q0 := ws0.length + 0) (kf := 6) (t0 := tf_T) (ty := .object R_D) ((wa_get 0).trans rfl) rfl (Nat.le_of_ble_eq_true rfl) fl_T_43 ty_T nm_T rfl rfl (by decide +kernel) rfl rfl d_T_init_91 ?_
  rw [wa_set]
  simp only [List.set_cons_zero, List.set_cons_succ, List.cons_append, List.nil_append]
  refine nn_aload_n h d_T_init_94 rfl ⟨_, rfl⟩ ?_
  refine nn_bipush h d_T_init_95 (by decide) ?_
  refine nn_newq h kl_T_47 (t := 2) rfl (nn_aE h) (N := 16) rfl (by omega) (nn_ro he (by omega) (by omega)) d_T_init_97 (fun q97 => ?_)
  rw [List.append_assoc]
  refine nn_putF h (nn_i he) (q0 := ws0.length + 0) (kf := 4) (t0 := tf_T) (ty := .array (.object R_E)) ((wa_get 0).trans rfl) rfl (Nat.le_of_ble_eq_true rfl) fl_T_49 ty_T nm_T rfl rfl (by decide +kernel) rfl rfl d_T_init_100 ?_
  rw [wa_set]
  simp only [List.set_cons_zero, List.set_cons_succ, List.cons_append, List.nil_append]
  refine nn_iconst h d_T_init_103 ?_
  refine nn_istore_n h d_T_init_104 (Nat.le_of_ble_eq_true rfl) rfl ?_
  have e0 := kT_loop (a := a) (v := fun j => if j = 0 then q5 else if j = 1 then q12 else if j = 2 then q19 else if j = 3 then q26 else if j = 4 then q33 else if j = 5 then q40 else if j = 6 then q47 else if j = 7 then q54 else if j = 8 then q61 else if j = 9 then p69 else if j = 10 then q69 else if j = 11 then q76 else q97) (ws0 := ws0) h he (fun A => ⟨_, A, rfl⟩) 16 0 (fun _ => (0, 0, fun _ => 0)) 13 3538 (by omega) (by omega) (by omega)
  unfold TT EA at e0
  rw [ei_0] at e0
  exact e0
def XX (G : mt_G) (a : Nat) (u v : Nat → Nat) (A : mt_A) : va_W := [(a, .inr (7, [.ref (u 0), .ref (u 2), .ref (u 4), .ref (u 5)])), cB_ (u 0) (u 1), cI_ G (u 1) 320, cB_ (u 2) (u 3), cI_ G (u 3) 700] ++ (TT G (u 4) v 16 A ++ [(u 5, .inr (4, [.ref (u 4), .ref (u 6)])), cB_ (u 6) (u 7), cI_ G (u 7) 700])
set_option maxHeartbeats 4000000 in
theorem kX_init {G : mt_G} {l : Launch} {o a : Nat} {ws0 : va_W} : KC G l y_X_init c_X_init 1 5 181 6521 o [.ref a] (ws0 ++ [(a, .inr (7, [.null, .null, .null, .null]))]) (fun ws' => ∃ u v A, ws' = ws0 ++ XX G a u v A) := by
  refine KC.intro (by decide) rfl rfl (by decide) (Nat.le_of_ble_eq_true rfl) (fun X hX h he => ?_)
  refine nn_aload_n h d_X_init_0 rfl ⟨_, rfl⟩ ?_
  refine nn_obj h ko_X rfl (Nat.le_of_ble_eq_true rfl) d_X_init_1 ?_
  refine nn_aload_n h d_X_init_4 rfl ⟨_, rfl⟩ ?_
  refine nn_new h (ci := 0) tf_B ty_B uw_B kl_X_7 ki_B kj_B rfl hf_B (nn_ro he (by omega) (by omega)) d_X_init_5 (fun q5 => ?_)
  refine nn_dup h d_X_init_8 rfl ?_
  refine nn_sipush h d_X_init_9 (by decide) ?_
  refine nn_init h (np := 1) (kB_init (N := 320) (by decide)) wm_X_11 kn_B wc_B_init kj_B ⟨rfl, by decide, by decide, by decide +kernel⟩ (rx_of he (by decide) (by decide) (by omega) (by omega)) rfl rfl rfl (Nat.le_of_ble_eq_true rfl) d_X_init_12 (fun ws9 hw9 => ?_)
  obtain ⟨q12, rfl⟩ := hw9
  rw [List.append_assoc]
  refine nn_putF h (nn_i he) (q0 := ws0.length + 0) (kf := 0) (t0 := tf_X) (ty := .object R_B) ((wa_get 0).trans rfl) rfl (Nat.le_of_ble_eq_true rfl) fl_X_14 ty_X nm_X rfl rfl (by decide +kernel) rfl rfl d_X_init_15 ?_
  rw [wa_set]
  simp only [List.set_cons_zero, List.set_cons_succ, List.cons_append, List.nil_append]
  refine nn_aload_n h d_X_init_18 rfl ⟨_, rfl⟩ ?_
  refine nn_new h (ci := 0) tf_B ty_B uw_B kl_X_7 ki_B kj_B rfl hf_B (nn_ro he (by omega) (by omega)) d_X_init_19 (fun q19 => ?_)
  refine nn_dup h d_X_init_22 rfl ?_
  refine nn_sipush h d_X_init_23 (by decide) ?_
  refine nn_init h (np := 1) (kB_init (N := 700) (by decide)) wm_X_11 kn_B wc_B_init kj_B ⟨rfl, by decide, by decide, by decide +kernel⟩ (rx_of he (by decide) (by decide) (by omega) (by omega)) rfl rfl rfl (Nat.le_of_ble_eq_true rfl) d_X_init_26 (fun ws9 hw9 => ?_)
  obtain ⟨q26, rfl⟩ := hw9
  rw [List.append_assoc]
  refine nn_putF h (nn_i he) (q0 := ws0.length + 0) (kf := 1) (t0 := tf_X) (ty := .object R_B) ((wa_get 0).trans rfl) rfl (Nat.le_of_ble_eq_true rfl) fl_X_18 ty_X nm_X rfl rfl (by decide +kernel) rfl rfl d_X_init_29 ?_
  rw [wa_set]
  simp only [List.set_cons_zero, List.set_cons_succ, List.cons_append, List.nil_append]
  refine nn_aload_n h d_X_init_32 rfl ⟨_, rfl⟩ ?_
  refine nn_new h (ci := 6) tf_T ty_T uw_T kl_X_21 ki_T kj_T rfl hf_T (nn_ro he (by omega) (by omega)) d_X_init_33 (fun q33 => ?_)
  refine nn_dup h d_X_init_36 rfl ?_
  refine nn_init h (np := 0) (kT_init) wm_X_23 kn_T wc_T_init kj_T ⟨rfl, by decide, by decide, by decide +kernel⟩ (rx_of he (by decide) (by decide) (by omega) (by omega)) rfl rfl rfl (Nat.le_of_ble_eq_true rfl) d_X_init_37 (fun ws9 hw9 => ?_)
  obtain ⟨v, A, rfl⟩ := hw9
  rw [List.append_assoc]
  refine nn_putF h (nn_i he) (q0 := ws0.length + 0) (kf := 2) (t0 := tf_X) (ty := .object R_T) ((wa_get 0).trans rfl) rfl (Nat.le_of_ble_eq_true rfl) fl_X_24 ty_X nm_X rfl rfl (by decide +kernel) rfl rfl d_X_init_40 ?_
  rw [wa_set]
  simp only [List.set_cons_zero, List.set_cons_succ, List.cons_append, List.nil_append]
  refine nn_aload_n h d_X_init_43 rfl ⟨_, rfl⟩ ?_
  refine nn_new h (ci := 4) tf_P ty_P uw_P kl_X_28 ki_P kj_P rfl hf_P (nn_ro he (by omega) (by omega)) d_X_init_44 (fun q44 => ?_)
  refine nn_dup h d_X_init_47 rfl ?_
  refine nn_aload_n h d_X_init_48 rfl ⟨_, rfl⟩ ?_
  refine nn_get h (q0 := ws0.length + 0) (kf := 2) ((wa_get2 0).trans rfl) rfl rfl fl_X_24 d_X_init_49 ?_
  refine nn_init h (np := 1) (kP_init) wm_X_30 kn_P wc_P_init kj_P ⟨rfl, by decide, by decide, by decide +kernel⟩ (rx_of he (by decide) (by decide) (by omega) (by omega)) rfl rfl rfl (Nat.le_of_ble_eq_true rfl) d_X_init_52 (fun ws9 hw9 => ?_)
  obtain ⟨p52, q52, rfl⟩ := hw9
  rw [List.append_assoc]
  refine nn_putF h (nn_i he) (q0 := ws0.length + 0) (kf := 3) (t0 := tf_X) (ty := .object R_P) ((wa_get 0).trans rfl) rfl (Nat.le_of_ble_eq_true rfl) fl_X_33 ty_X nm_X rfl rfl (by decide +kernel) rfl rfl d_X_init_55 ?_
  rw [wa_set]
  simp only [List.set_cons_zero, List.set_cons_succ, List.cons_append, List.nil_append]
  exact nn_ret h he (by omega) (by omega) d_X_init_58 ⟨fun j => if j = 0 then q5 else if j = 1 then q12 else if j = 2 then q19 else if j = 3 then q26 else if j = 4 then q33 else if j = 5 then q44 else if j = 6 then p52 else q52, v, A, rfl⟩
