/-! The class: clear, entities, written; digits of sixteen. -/
theorem cX_clear {G : mt_G} {l : Launch} {mem : mt_M} : CT G l y_X_clear c_X_clear 2 (some .int) 2 [vr G 0] mem (fun v m' => v = some (vi (mem 1 1)) ∧ st_ (st_ mem 1 1 0) 1 2 0 = m') := by
  refine CT.intro (by decide) rfl (Nat.le_of_ble_eq_true rfl) (fun X h he => ?_)
  refine jj_aload_n h d_X_clear_0 rfl ⟨_, rfl⟩ ?_
  refine jj_g_X_message h  fl_X_14 d_X_clear_1 ?_
  refine jj_g_B_size h (by omega) fl_X_37 d_X_clear_4 ?_
  refine jj_istore_n h d_X_clear_7 (Nat.le_of_ble_eq_true rfl) rfl ?_
  refine jj_aload_n h d_X_clear_8 rfl ⟨_, rfl⟩ ?_
  refine jj_g_X_message h  fl_X_14 d_X_clear_9 ?_
  refine jj_callV h (cB_empty ⟨by decide, by decide⟩) cv_X_44 (ro_of he (by decide) (by decide)) rfl rfl (by unfold mt_N; omega) (ce_B (by omega)) rfl rfl (Nat.le_of_ble_eq_true rfl) d_X_clear_12 (fun v m12 hv => ?_)
  obtain ⟨rfl, rfl⟩ := hv
  refine jj_iload_n h d_X_clear_15 rfl ?_
  refine jj_iret h he d_X_clear_16 ?_
  exact ⟨rfl, rfl⟩
theorem cX_entities {G : mt_G} {l : Launch} {mem : mt_M} : CT G l y_X_entities c_X_entities 1 (some .int) 1 [vr G 0] mem (fun v m' => v = some (vi (mem 17 7)) ∧ mem = m') := by
  refine CT.intro (by decide) rfl (Nat.le_of_ble_eq_true rfl) (fun X h he => ?_)
  refine jj_aload_n h d_X_entities_0 rfl ⟨_, rfl⟩ ?_
  refine jj_g_X_tree h  fl_X_24 d_X_entities_1 ?_
  refine jj_g_T_count h  fl_X_55 d_X_entities_4 ?_
  refine jj_iret h he d_X_entities_7 ?_
  exact ⟨rfl, rfl⟩
theorem cX_written {G : mt_G} {l : Launch} {mem : mt_M} {i : Int} (h0 : 0 ≤ mem 2 1) (h1 : mem 2 1 ≤ 700) (hi : r32 i) : CT G l y_X_written c_X_written 2 (some .int) 2 [vr G 0, vi i] mem (fun v m' => v = some (vi (bA_ mem 2 i)) ∧ mem = m') := by
  refine CT.intro (by decide) rfl (Nat.le_of_ble_eq_true rfl) (fun X h he => ?_)
  refine jj_aload_n h d_X_written_0 rfl ⟨_, rfl⟩ ?_
  refine jj_g_X_latest h  fl_X_18 d_X_written_1 ?_
  refine jj_iload_n h d_X_written_4 rfl ?_
  refine jj_callV h (cB_at ⟨by decide, by decide⟩ h0 h1 hi) cv_X_146 (ro_of he (by decide) (by decide)) rfl rfl (by unfold mt_N; omega) (ce_B (by omega)) rfl rfl (Nat.le_of_ble_eq_true rfl) d_X_written_5 (fun v m5 hv => ?_)
  obtain ⟨rfl, rfl⟩ := hv
  refine jj_iret h he d_X_written_8 ?_
  exact ⟨rfl, rfl⟩
