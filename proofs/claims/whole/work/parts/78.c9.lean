/-! The class: an entity begins. -/
def es_ (m : mt_M) (r : Nat) (a b d w : Int) : mt_M := st_ (st_ (st_ (st_ (st_ (st_ (st_ (st_ (st_ (st_ (st_ (st_ (st_ m r 0 0) r 1 d) r 2 w) r 3 0) r 4 0) r 5 a) r 6 a) r 7 b) r 8 0) r 9 0) r 10 0) r 11 0) r 12 0
theorem cE_start {G : mt_G} {l : Launch} {mem : mt_M} {r : Nat} {a b d w : Int} (hr : 22 ≤ r ∧ r ≤ 37) : CT G l y_E_start c_E_start 5 none 1 [vr G r, vi a, vi b, vi d, vi w] mem (fun v m' => v = none ∧ es_ mem r a b d w = m') := by
  refine CT.intro (by decide) rfl (Nat.le_of_ble_eq_true rfl) (fun X h he => ?_)
  refine jj_aload_n h d_E_start_0 rfl ⟨_, rfl⟩ ?_
  refine jj_iconst h d_E_start_1 ?_
  refine jj_p_E_kind h (by omega) fl_E_18 d_E_start_2 ?_
  refine jj_aload_n h d_E_start_5 rfl ⟨_, rfl⟩ ?_
  refine jj_iload_n h d_E_start_6 rfl ?_
  refine jj_p_E_depth h (by omega) fl_E_22 d_E_start_7 ?_
  refine jj_aload_n h d_E_start_10 rfl ⟨_, rfl⟩ ?_
  refine jj_iload h d_E_start_11 rfl ?_
  refine jj_p_E_parent h (by omega) fl_E_25 d_E_start_13 ?_
  refine jj_aload_n h d_E_start_16 rfl ⟨_, rfl⟩ ?_
  refine jj_iconst h d_E_start_17 ?_
  refine jj_p_E_encoding h (by omega) fl_E_28 d_E_start_18 ?_
  refine jj_aload_n h d_E_start_21 rfl ⟨_, rfl⟩ ?_
  refine jj_iconst h d_E_start_22 ?_
  refine jj_p_E_parts h (by omega) fl_E_31 d_E_start_23 ?_
  refine jj_aload_n h d_E_start_26 rfl ⟨_, rfl⟩ ?_
  refine jj_iload_n h d_E_start_27 rfl ?_
  refine jj_p_E_begin h (by omega) fl_E_34 d_E_start_28 ?_
  refine jj_aload_n h d_E_start_31 rfl ⟨_, rfl⟩ ?_
  refine jj_iload_n h d_E_start_32 rfl ?_
  refine jj_p_E_body h (by omega) fl_E_37 d_E_start_33 ?_
  refine jj_aload_n h d_E_start_36 rfl ⟨_, rfl⟩ ?_
  refine jj_iload_n h d_E_start_37 rfl ?_
  refine jj_p_E_end h (by omega) fl_E_40 d_E_start_38 ?_
  refine jj_aload_n h d_E_start_41 rfl ⟨_, rfl⟩ ?_
  refine jj_iconst h d_E_start_42 ?_
  refine jj_p_E_contentBegin h (by omega) fl_E_43 d_E_start_43 ?_
  refine jj_aload_n h d_E_start_46 rfl ⟨_, rfl⟩ ?_
  refine jj_iconst h d_E_start_47 ?_
  refine jj_p_E_contentSize h (by omega) fl_E_46 d_E_start_48 ?_
  refine jj_aload_n h d_E_start_51 rfl ⟨_, rfl⟩ ?_
  refine jj_iconst h d_E_start_52 ?_
  refine jj_p_E_boundaryBegin h (by omega) fl_E_49 d_E_start_53 ?_
  refine jj_aload_n h d_E_start_56 rfl ⟨_, rfl⟩ ?_
  refine jj_iconst h d_E_start_57 ?_
  refine jj_p_E_boundarySize h (by omega) fl_E_52 d_E_start_58 ?_
  refine jj_aload_n h d_E_start_61 rfl ⟨_, rfl⟩ ?_
  refine jj_iconst h d_E_start_62 ?_
  refine jj_p_E_fieldCount h (by omega) fl_E_55 d_E_start_63 ?_
  refine jj_vret h he d_E_start_66 ?_
  exact ⟨rfl, rfl⟩
