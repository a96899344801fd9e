/-! The class: entityAt, fieldAt, byteOf. -/
theorem cT_entityAt {G : mt_G} {l : Launch} {mem : mt_M} {e : Int} (h0 : 0 ≤ e) (h1 : e < mem 17 7) (h2 : mem 17 7 ≤ 16) : CT G l y_T_entityAt c_T_entityAt 2 (some (.object "MailTree$Entity")) 1 [vr G 17, vi e] mem (fun v m' => v = some (vr G (22 + e.toNat)) ∧ mem = m') := by
  refine CT.intro (by decide) rfl (Nat.le_of_ble_eq_true rfl) (fun X h he => ?_)
  refine jj_iload_n h d_T_entityAt_0 rfl ?_
  refine jj_if_lt h 18 d_T_entityAt_1 (by decide) ⟨by omega, by omega⟩ (fun q1 => absurd q1 (by omega)) (fun _ => ?_)
  refine jj_iload_n h d_T_entityAt_4 rfl ?_
  refine jj_aload_n h d_T_entityAt_5 rfl ⟨_, rfl⟩ ?_
  refine jj_g_T_count h  fl_T_54 d_T_entityAt_6 ?_
  refine jj_icmp_ge h 18 d_T_entityAt_9 (by decide) ⟨by omega, by omega⟩ ⟨by omega, by omega⟩ (fun q9 => absurd q9 (by omega)) (fun _ => ?_)
  refine jj_iload_n h d_T_entityAt_12 rfl ?_
  refine jj_bipush h d_T_entityAt_13 (by decide) ?_
  refine jj_icmp_lt h 28 d_T_entityAt_15 (by decide) ⟨by omega, by omega⟩ ⟨by omega, by omega⟩ (fun _ => ?_) (fun q15 => absurd (by omega) q15)
  refine jj_aload_n h d_T_entityAt_28 rfl ⟨_, rfl⟩ ?_
  refine jj_g_T_entities h  fl_T_49 d_T_entityAt_29 ?_
  refine jj_iload_n h d_T_entityAt_32 rfl ?_
  refine jj_aE h (by omega) (by omega) d_T_entityAt_33 ?_
  refine jj_aret h he ⟨_, rfl⟩ (Or.inr ⟨_, rfl⟩) d_T_entityAt_34 ?_
  exact ⟨rfl, rfl⟩
theorem tT_entityAt {G : mt_G} {l : Launch} {mem : mt_M} {e : Int} (hl : l.stackTraces = false) (he9 : r32 e) (hc : 0 ≤ mem 17 7 ∧ mem 17 7 ≤ 16) (hn : ¬ (0 ≤ e ∧ e < mem 17 7)) : TX G l y_T_entityAt c_T_entityAt 2 (some (.object "MailTree$Entity")) 6 [vr G 17, vi e] mem xN (fun m' => mem = m') := by
  obtain ⟨e1, e2⟩ := he9
  refine TX.intro hl (by decide) rfl (Nat.le_of_ble_eq_true rfl) (fun X h he => ?_)
  refine jj_iload_n h d_T_entityAt_0 rfl ?_
  refine jj_if_lt h 18 d_T_entityAt_1 (by decide) ⟨by omega, by omega⟩ (fun q1 => ?_) (fun q1 => ?_)
  · refine jj_thr h he 11 xk_N xk_T_xN xl_T_xN rfl d_T_entityAt_18 d_T_entityAt_21 d_T_entityAt_22 d_T_entityAt_24 d_T_entityAt_27 (Nat.le_of_ble_eq_true rfl) (by first | decide | omega) rfl ?_
    rfl
  · refine jj_iload_n h d_T_entityAt_4 rfl ?_
    refine jj_aload_n h d_T_entityAt_5 rfl ⟨_, rfl⟩ ?_
    refine jj_g_T_count h  fl_T_54 d_T_entityAt_6 ?_
    refine jj_icmp_ge h 18 d_T_entityAt_9 (by decide) ⟨by omega, by omega⟩ ⟨by omega, by omega⟩ (fun q9 => ?_) (fun q9 => ?_)
    · refine jj_thr h he 11 xk_N xk_T_xN xl_T_xN rfl d_T_entityAt_18 d_T_entityAt_21 d_T_entityAt_22 d_T_entityAt_24 d_T_entityAt_27 (Nat.le_of_ble_eq_true rfl) (by first | decide | omega) rfl ?_
      rfl
    · exfalso
      exact hn ⟨by omega, by omega⟩ --done
theorem cE_fieldAt {G : mt_G} {l : Launch} {mem : mt_M} {N : Nat} {f : Int} (hN : N < 16) (h0 : 0 ≤ f) (h1 : f < mem (22 + N) 12) (h2 : mem (22 + N) 12 ≤ 8) : CT G l y_E_fieldAt c_E_fieldAt 2 (some (.object "MailTree$Field")) 1 [vr G (22 + N), vi f] mem (fun v m' => v = some (vr G (54 + 8 * N + f.toNat)) ∧ mem = m') := by
  refine CT.intro (by decide) rfl (Nat.le_of_ble_eq_true rfl) (fun X h he => ?_)
  refine jj_iload_n h d_E_fieldAt_0 rfl ?_
  refine jj_if_lt h 18 d_E_fieldAt_1 (by decide) ⟨by omega, by omega⟩ (fun q1 => absurd q1 (by omega)) (fun _ => ?_)
  refine jj_iload_n h d_E_fieldAt_4 rfl ?_
  refine jj_aload_n h d_E_fieldAt_5 rfl ⟨_, rfl⟩ ?_
  refine jj_g_E_fieldCount h (by omega) fl_E_55 d_E_fieldAt_6 ?_
  refine jj_icmp_ge h 18 d_E_fieldAt_9 (by decide) ⟨by omega, by omega⟩ ⟨by omega, by omega⟩ (fun q9 => absurd q9 (by omega)) (fun _ => ?_)
  refine jj_iload_n h d_E_fieldAt_12 rfl ?_
  refine jj_bipush h d_E_fieldAt_13 (by decide) ?_
  refine jj_icmp_lt h 28 d_E_fieldAt_15 (by decide) ⟨by omega, by omega⟩ ⟨by omega, by omega⟩ (fun _ => ?_) (fun q15 => absurd (by omega) q15)
  refine jj_aload_n h d_E_fieldAt_28 rfl ⟨_, rfl⟩ ?_
  refine jj_g_E_fields h (by omega) fl_E_11 d_E_fieldAt_29 ?_
  refine jj_iload_n h d_E_fieldAt_32 rfl ?_
  refine jj_aF h hN (by omega) (by omega) d_E_fieldAt_33 ?_
  refine jj_aret h he ⟨_, rfl⟩ (Or.inr ⟨_, rfl⟩) d_E_fieldAt_34 ?_
  exact ⟨rfl, rfl⟩
theorem tE_fieldAt {G : mt_G} {l : Launch} {mem : mt_M} {N : Nat} {f : Int} (hl : l.stackTraces = false) (hN : N < 16) (hf : r32 f) (hc : 0 ≤ mem (22 + N) 12 ∧ mem (22 + N) 12 ≤ 8) (hn : ¬ (0 ≤ f ∧ f < mem (22 + N) 12)) : TX G l y_E_fieldAt c_E_fieldAt 2 (some (.object "MailTree$Field")) 6 [vr G (22 + N), vi f] mem xN (fun m' => mem = m') := by
  obtain ⟨f1, f2⟩ := hf
  refine TX.intro hl (by decide) rfl (Nat.le_of_ble_eq_true rfl) (fun X h he => ?_)
  refine jj_iload_n h d_E_fieldAt_0 rfl ?_
  refine jj_if_lt h 18 d_E_fieldAt_1 (by decide) ⟨by omega, by omega⟩ (fun q1 => ?_) (fun q1 => ?_)
  · refine jj_thr h he 13 xk_N xk_E_xN xl_E_xN rfl d_E_fieldAt_18 d_E_fieldAt_21 d_E_fieldAt_22 d_E_fieldAt_24 d_E_fieldAt_27 (Nat.le_of_ble_eq_true rfl) (by first | decide | omega) rfl ?_
    rfl
  · refine jj_iload_n h d_E_fieldAt_4 rfl ?_
    refine jj_aload_n h d_E_fieldAt_5 rfl ⟨_, rfl⟩ ?_
    refine jj_g_E_fieldCount h (by omega) fl_E_55 d_E_fieldAt_6 ?_
    refine jj_icmp_ge h 18 d_E_fieldAt_9 (by decide) ⟨by omega, by omega⟩ ⟨by omega, by omega⟩ (fun q9 => ?_) (fun q9 => ?_)
    · refine jj_thr h he 13 xk_N xk_E_xN xl_E_xN rfl d_E_fieldAt_18 d_E_fieldAt_21 d_E_fieldAt_22 d_E_fieldAt_24 d_E_fieldAt_27 (Nat.le_of_ble_eq_true rfl) (by first | decide | omega) rfl ?_
      rfl
    · exfalso
      exact hn ⟨by omega, by omega⟩ --done
theorem cX_byteOf {G : mt_G} {l : Launch} {mem : mt_M} {r : Nat} {b n i : Int} (hr : 1 ≤ r ∧ r ≤ 8) (hb : 0 ≤ b) (hbn : b + n ≤ mem r 1) (h1 : mem r 1 ≤ ln_ (r + 8)) (h0 : 0 ≤ i) (hi : i < n) : CT G l y_X_byteOf c_X_byteOf 4 (some .int) 2 [vr G r, vi b, vi n, vi i] mem (fun v m' => v = some (vi (mem (r + 8) (b + i))) ∧ mem = m') := by
  have hb9 := ln_b hr
  refine CT.intro (by decide) rfl (Nat.le_of_ble_eq_true rfl) (fun X h he => ?_)
  refine jj_iload_n h d_X_byteOf_0 rfl ?_
  refine jj_if_lt h 9 d_X_byteOf_1 (by decide) ⟨by omega, by omega⟩ (fun q1 => absurd q1 (by omega)) (fun _ => ?_)
  refine jj_iload_n h d_X_byteOf_4 rfl ?_
  refine jj_iload_n h d_X_byteOf_5 rfl ?_
  refine jj_icmp_lt h 19 d_X_byteOf_6 (by decide) ⟨by omega, by omega⟩ ⟨by omega, by omega⟩ (fun _ => ?_) (fun q6 => absurd (by omega) q6)
  refine jj_aload_n h d_X_byteOf_19 rfl ⟨_, rfl⟩ ?_
  refine jj_iload_n h d_X_byteOf_20 rfl ?_
  refine jj_iload_n h d_X_byteOf_21 rfl ?_
  refine jj_iadd h d_X_byteOf_22 ?_
  refine jj_callV h (cB_at hr (by omega) h1 ⟨by omega, by omega⟩) cv_X_146 (ro_of he (by first | decide | omega) (by decide)) rfl rfl (by unfold mt_N; omega) (ce_B (by omega)) rfl rfl (Nat.le_of_ble_eq_true rfl) d_X_byteOf_23 (fun v m23 hv => ?_)
  obtain ⟨rfl, rfl⟩ := hv
  refine jj_iret h he d_X_byteOf_26 ?_
  exact ⟨by unfold bA_; rw [if_pos (by omega)], rfl⟩
theorem tX_byteOf {G : mt_G} {l : Launch} {mem : mt_M} {r : Nat} {b n i : Int} (hl : l.stackTraces = false) (hn : r32 n) (hi : r32 i) (hno : ¬ (0 ≤ i ∧ i < n)) : TX G l y_X_byteOf c_X_byteOf 4 (some .int) 6 [vr G r, vi b, vi n, vi i] mem xN (fun m' => mem = m') := by
  obtain ⟨i1, i2⟩ := hi
  obtain ⟨n1, n2⟩ := hn
  refine TX.intro hl (by decide) rfl (Nat.le_of_ble_eq_true rfl) (fun X h he => ?_)
  refine jj_iload_n h d_X_byteOf_0 rfl ?_
  refine jj_if_lt h 9 d_X_byteOf_1 (by decide) ⟨by omega, by omega⟩ (fun q1 => ?_) (fun q1 => ?_)
  · refine jj_thr h he 15 xk_N xk_X_xN xl_X_xN rfl d_X_byteOf_9 d_X_byteOf_12 d_X_byteOf_13 d_X_byteOf_15 d_X_byteOf_18 (Nat.le_of_ble_eq_true rfl) (by first | decide | omega) rfl ?_
    rfl
  · refine jj_iload_n h d_X_byteOf_4 rfl ?_
    refine jj_iload_n h d_X_byteOf_5 rfl ?_
    refine jj_icmp_lt h 19 d_X_byteOf_6 (by decide) ⟨by omega, by omega⟩ ⟨by omega, by omega⟩ (fun q6 => absurd q6 (by omega)) (fun _ => ?_)
    refine jj_thr h he 15 xk_N xk_X_xN xl_X_xN rfl d_X_byteOf_9 d_X_byteOf_12 d_X_byteOf_13 d_X_byteOf_15 d_X_byteOf_18 (Nat.le_of_ble_eq_true rfl) (by first | decide | omega) rfl ?_
    rfl
