/-! The class: look, length, letter, content, boundary. -/
theorem ox_l {G : mt_G} {X : mt_X} {d : Nat} {C : String} {P : mt_M → Prop} (he : OX G X d C P) : X.2.1.stackTraces = false := by
  obtain ⟨p, l, e, R, s, m, args, below, meth, c, A, Q⟩ := X
  exact he.2.2.2.2
theorem slc_D {f : Int → Int} {p i : Int} {A : List Int} (h : slc f p (p + A.length) = A) (h0 : 0 ≤ i) (h1 : i < A.length) : A.getD i.toNat 0 = f (p + i) := by
  have q := slc_get (f := f) (p := p) (e := p + A.length) h0 (by omega)
  rw [h] at q
  rw [List.getD_eq_getElem?_getD, q]; rfl
theorem RC.at {m : mt_M} {L : List mt_E} (hC : RC m L) {e : Int} (h0 : 0 ≤ e) (h1 : e < L.length) : e.toNat < 16 ∧ cE m e.toNat (gE L e) := ⟨by have := hC.2.1; omega, hC.2.2.1 _ _ (gE_get h0 h1)⟩
theorem cX_look {G : mt_G} {l : Launch} {mem : mt_M} {L : List mt_E} {e w : Int} (hC : RC mem L) (h0 : 0 ≤ e) (h1 : e < L.length) (w0 : 0 ≤ w) (w9 : w ≤ 9) : CT G l y_X_look c_X_look 4 (some .int) 2 [vr G 0, vi e, vi w] mem (fun v m' => v = some (vi ((gE L e).1 w)) ∧ mem = m') := by
  have c17 := hC.1
  have c16 := hC.2.1
  obtain ⟨hN, ⟨⟨a0, a1, a2, a3, a4, a5, a6, a7, a8, a9⟩, hG, hc, hb⟩⟩ := hC.at h0 h1
  have g12 := hG.1
  have c9 := hc.2.1
  refine CT.intro (by decide) rfl (Nat.le_of_ble_eq_true rfl) (fun X h he => ?_)
  have hw : w = 0 ∨ w = 1 ∨ w = 2 ∨ w = 3 ∨ w = 4 ∨ w = 5 ∨ w = 6 ∨ w = 7 ∨ w = 8 ∨ w = 9 := by omega
  rcases hw with rfl | rfl | rfl | rfl | rfl | rfl | rfl | rfl | rfl | rfl
  · refine jj_aload_n h d_X_look_0 rfl ⟨_, rfl⟩ ?_
    refine jj_g_X_tree h  fl_X_24 d_X_look_1 ?_
    refine jj_iload_n h d_X_look_4 rfl ?_
    refine jj_callV h (cT_entityAt h0 (by omega) (by omega)) cv_X_58 (ro_of he (by first | decide | omega) (by decide)) rfl rfl (by decide) rfl rfl rfl (Nat.le_of_ble_eq_true rfl) d_X_look_5 (fun v m5 hv => ?_)
    obtain ⟨rfl, rfl⟩ := hv
    refine jj_astore_n h d_X_look_8 ⟨_, rfl⟩ (Nat.le_of_ble_eq_true rfl) rfl ?_
    refine jj_iload_n h d_X_look_9 rfl ?_
    refine jj_tableIn h 64 d_X_look_10 ⟨by decide, by decide⟩ (by omega) (by omega) rfl (by decide) ?_
    refine jj_aload_n h d_X_look_64 rfl ⟨_, rfl⟩ ?_
    refine jj_g_E_kind h (by omega) fl_X_62 d_X_look_65 ?_
    refine jj_iret h he d_X_look_68 ?_
    exact ⟨by rw [a0], rfl⟩
  · refine jj_aload_n h d_X_look_0 rfl ⟨_, rfl⟩ ?_
    refine jj_g_X_tree h  fl_X_24 d_X_look_1 ?_
    refine jj_iload_n h d_X_look_4 rfl ?_
    refine jj_callV h (cT_entityAt h0 (by omega) (by omega)) cv_X_58 (ro_of he (by first | decide | omega) (by decide)) rfl rfl (by decide) rfl rfl rfl (Nat.le_of_ble_eq_true rfl) d_X_look_5 (fun v m5 hv => ?_)
    obtain ⟨rfl, rfl⟩ := hv
    refine jj_astore_n h d_X_look_8 ⟨_, rfl⟩ (Nat.le_of_ble_eq_true rfl) rfl ?_
    refine jj_iload_n h d_X_look_9 rfl ?_
    refine jj_tableIn h 69 d_X_look_10 ⟨by decide, by decide⟩ (by omega) (by omega) rfl (by decide) ?_
    refine jj_aload_n h d_X_look_69 rfl ⟨_, rfl⟩ ?_
    refine jj_g_E_depth h (by omega) fl_X_67 d_X_look_70 ?_
    refine jj_iret h he d_X_look_73 ?_
    exact ⟨by rw [a1], rfl⟩
  · refine jj_aload_n h d_X_look_0 rfl ⟨_, rfl⟩ ?_
    refine jj_g_X_tree h  fl_X_24 d_X_look_1 ?_
    refine jj_iload_n h d_X_look_4 rfl ?_
    refine jj_callV h (cT_entityAt h0 (by omega) (by omega)) cv_X_58 (ro_of he (by first | decide | omega) (by decide)) rfl rfl (by decide) rfl rfl rfl (Nat.le_of_ble_eq_true rfl) d_X_look_5 (fun v m5 hv => ?_)
    obtain ⟨rfl, rfl⟩ := hv
    refine jj_astore_n h d_X_look_8 ⟨_, rfl⟩ (Nat.le_of_ble_eq_true rfl) rfl ?_
    refine jj_iload_n h d_X_look_9 rfl ?_
    refine jj_tableIn h 74 d_X_look_10 ⟨by decide, by decide⟩ (by omega) (by omega) rfl (by decide) ?_
    refine jj_aload_n h d_X_look_74 rfl ⟨_, rfl⟩ ?_
    refine jj_g_E_parent h (by omega) fl_X_70 d_X_look_75 ?_
    refine jj_iret h he d_X_look_78 ?_
    exact ⟨by rw [a2], rfl⟩
  · refine jj_aload_n h d_X_look_0 rfl ⟨_, rfl⟩ ?_
    refine jj_g_X_tree h  fl_X_24 d_X_look_1 ?_
    refine jj_iload_n h d_X_look_4 rfl ?_
    refine jj_callV h (cT_entityAt h0 (by omega) (by omega)) cv_X_58 (ro_of he (by first | decide | omega) (by decide)) rfl rfl (by decide) rfl rfl rfl (Nat.le_of_ble_eq_true rfl) d_X_look_5 (fun v m5 hv => ?_)
    obtain ⟨rfl, rfl⟩ := hv
    refine jj_astore_n h d_X_look_8 ⟨_, rfl⟩ (Nat.le_of_ble_eq_true rfl) rfl ?_
    refine jj_iload_n h d_X_look_9 rfl ?_
    refine jj_tableIn h 79 d_X_look_10 ⟨by decide, by decide⟩ (by omega) (by omega) rfl (by decide) ?_
    refine jj_aload_n h d_X_look_79 rfl ⟨_, rfl⟩ ?_
    refine jj_g_E_fieldCount h (by omega) fl_X_73 d_X_look_80 ?_
    refine jj_iret h he d_X_look_83 ?_
    exact ⟨by rw [(g12.trans a8.symm)], rfl⟩
  · refine jj_aload_n h d_X_look_0 rfl ⟨_, rfl⟩ ?_
    refine jj_g_X_tree h  fl_X_24 d_X_look_1 ?_
    refine jj_iload_n h d_X_look_4 rfl ?_
    refine jj_callV h (cT_entityAt h0 (by omega) (by omega)) cv_X_58 (ro_of he (by first | decide | omega) (by decide)) rfl rfl (by decide) rfl rfl rfl (Nat.le_of_ble_eq_true rfl) d_X_look_5 (fun v m5 hv => ?_)
    obtain ⟨rfl, rfl⟩ := hv
    refine jj_astore_n h d_X_look_8 ⟨_, rfl⟩ (Nat.le_of_ble_eq_true rfl) rfl ?_
    refine jj_iload_n h d_X_look_9 rfl ?_
    refine jj_tableIn h 84 d_X_look_10 ⟨by decide, by decide⟩ (by omega) (by omega) rfl (by decide) ?_
    refine jj_aload_n h d_X_look_84 rfl ⟨_, rfl⟩ ?_
    refine jj_g_E_encoding h (by omega) fl_X_76 d_X_look_85 ?_
    refine jj_iret h he d_X_look_88 ?_
    exact ⟨by rw [a3], rfl⟩
  · refine jj_aload_n h d_X_look_0 rfl ⟨_, rfl⟩ ?_
    refine jj_g_X_tree h  fl_X_24 d_X_look_1 ?_
    refine jj_iload_n h d_X_look_4 rfl ?_
    refine jj_callV h (cT_entityAt h0 (by omega) (by omega)) cv_X_58 (ro_of he (by first | decide | omega) (by decide)) rfl rfl (by decide) rfl rfl rfl (Nat.le_of_ble_eq_true rfl) d_X_look_5 (fun v m5 hv => ?_)
    obtain ⟨rfl, rfl⟩ := hv
    refine jj_astore_n h d_X_look_8 ⟨_, rfl⟩ (Nat.le_of_ble_eq_true rfl) rfl ?_
    refine jj_iload_n h d_X_look_9 rfl ?_
    refine jj_tableIn h 89 d_X_look_10 ⟨by decide, by decide⟩ (by omega) (by omega) rfl (by decide) ?_
    refine jj_aload_n h d_X_look_89 rfl ⟨_, rfl⟩ ?_
    refine jj_g_E_contentSize h (by omega) fl_X_79 d_X_look_90 ?_
    refine jj_iret h he d_X_look_93 ?_
    exact ⟨by rw [(c9.trans a9.symm)], rfl⟩
  · refine jj_aload_n h d_X_look_0 rfl ⟨_, rfl⟩ ?_
    refine jj_g_X_tree h  fl_X_24 d_X_look_1 ?_
    refine jj_iload_n h d_X_look_4 rfl ?_
    refine jj_callV h (cT_entityAt h0 (by omega) (by omega)) cv_X_58 (ro_of he (by first | decide | omega) (by decide)) rfl rfl (by decide) rfl rfl rfl (Nat.le_of_ble_eq_true rfl) d_X_look_5 (fun v m5 hv => ?_)
    obtain ⟨rfl, rfl⟩ := hv
    refine jj_astore_n h d_X_look_8 ⟨_, rfl⟩ (Nat.le_of_ble_eq_true rfl) rfl ?_
    refine jj_iload_n h d_X_look_9 rfl ?_
    refine jj_tableIn h 94 d_X_look_10 ⟨by decide, by decide⟩ (by omega) (by omega) rfl (by decide) ?_
    refine jj_aload_n h d_X_look_94 rfl ⟨_, rfl⟩ ?_
    refine jj_g_E_parts h (by omega) fl_X_82 d_X_look_95 ?_
    refine jj_iret h he d_X_look_98 ?_
    exact ⟨by rw [a4], rfl⟩
  · refine jj_aload_n h d_X_look_0 rfl ⟨_, rfl⟩ ?_
    refine jj_g_X_tree h  fl_X_24 d_X_look_1 ?_
    refine jj_iload_n h d_X_look_4 rfl ?_
    refine jj_callV h (cT_entityAt h0 (by omega) (by omega)) cv_X_58 (ro_of he (by first | decide | omega) (by decide)) rfl rfl (by decide) rfl rfl rfl (Nat.le_of_ble_eq_true rfl) d_X_look_5 (fun v m5 hv => ?_)
    obtain ⟨rfl, rfl⟩ := hv
    refine jj_astore_n h d_X_look_8 ⟨_, rfl⟩ (Nat.le_of_ble_eq_true rfl) rfl ?_
    refine jj_iload_n h d_X_look_9 rfl ?_
    refine jj_tableIn h 99 d_X_look_10 ⟨by decide, by decide⟩ (by omega) (by omega) rfl (by decide) ?_
    refine jj_aload_n h d_X_look_99 rfl ⟨_, rfl⟩ ?_
    refine jj_g_E_begin h (by omega) fl_X_85 d_X_look_100 ?_
    refine jj_iret h he d_X_look_103 ?_
    exact ⟨by rw [a5], rfl⟩
  · refine jj_aload_n h d_X_look_0 rfl ⟨_, rfl⟩ ?_
    refine jj_g_X_tree h  fl_X_24 d_X_look_1 ?_
    refine jj_iload_n h d_X_look_4 rfl ?_
    refine jj_callV h (cT_entityAt h0 (by omega) (by omega)) cv_X_58 (ro_of he (by first | decide | omega) (by decide)) rfl rfl (by decide) rfl rfl rfl (Nat.le_of_ble_eq_true rfl) d_X_look_5 (fun v m5 hv => ?_)
    obtain ⟨rfl, rfl⟩ := hv
    refine jj_astore_n h d_X_look_8 ⟨_, rfl⟩ (Nat.le_of_ble_eq_true rfl) rfl ?_
    refine jj_iload_n h d_X_look_9 rfl ?_
    refine jj_tableIn h 104 d_X_look_10 ⟨by decide, by decide⟩ (by omega) (by omega) rfl (by decide) ?_
    refine jj_aload_n h d_X_look_104 rfl ⟨_, rfl⟩ ?_
    refine jj_g_E_body h (by omega) fl_X_88 d_X_look_105 ?_
    refine jj_iret h he d_X_look_108 ?_
    exact ⟨by rw [a6], rfl⟩
  · refine jj_aload_n h d_X_look_0 rfl ⟨_, rfl⟩ ?_
    refine jj_g_X_tree h  fl_X_24 d_X_look_1 ?_
    refine jj_iload_n h d_X_look_4 rfl ?_
    refine jj_callV h (cT_entityAt h0 (by omega) (by omega)) cv_X_58 (ro_of he (by first | decide | omega) (by decide)) rfl rfl (by decide) rfl rfl rfl (Nat.le_of_ble_eq_true rfl) d_X_look_5 (fun v m5 hv => ?_)
    obtain ⟨rfl, rfl⟩ := hv
    refine jj_astore_n h d_X_look_8 ⟨_, rfl⟩ (Nat.le_of_ble_eq_true rfl) rfl ?_
    refine jj_iload_n h d_X_look_9 rfl ?_
    refine jj_tableIn h 109 d_X_look_10 ⟨by decide, by decide⟩ (by omega) (by omega) rfl (by decide) ?_
    refine jj_aload_n h d_X_look_109 rfl ⟨_, rfl⟩ ?_
    refine jj_g_E_end h (by omega) fl_X_91 d_X_look_110 ?_
    refine jj_iret h he d_X_look_113 ?_
    exact ⟨by rw [a7], rfl⟩
theorem tX_look1 {G : mt_G} {l : Launch} {mem : mt_M} {L : List mt_E} {e w : Int} (hl : l.stackTraces = false) (hC : RC mem L) (he9 : r32 e) (hn : ¬ (0 ≤ e ∧ e < L.length)) : TX G l y_X_look c_X_look 4 (some .int) 7 [vr G 0, vi e, vi w] mem xN (fun m' => mem = m') := by
  have c17 := hC.1
  have c16 := hC.2.1
  refine TX.intro hl (by decide) rfl (Nat.le_of_ble_eq_true rfl) (fun X h he => ?_)
  refine jj_aload_n h d_X_look_0 rfl ⟨_, rfl⟩ ?_
  refine jj_g_X_tree h  fl_X_24 d_X_look_1 ?_
  refine jj_iload_n h d_X_look_4 rfl ?_
  refine jj_passV h he (tT_entityAt (ox_l he) he9 (by omega) (by rw [c17]; exact hn)) cv_X_58 (by first | decide | omega) (by decide) rfl rfl (by decide) rfl rfl rfl (Nat.le_of_ble_eq_true rfl) d_X_look_5 (fun m9 hm9 => ?_)
  exact hm9
theorem tX_look2 {G : mt_G} {l : Launch} {mem : mt_M} {L : List mt_E} {e w : Int} (hl : l.stackTraces = false) (hC : RC mem L) (h0 : 0 ≤ e) (h1 : e < L.length) (hw : r32 w) (hn : ¬ (0 ≤ w ∧ w ≤ 9)) : TX G l y_X_look c_X_look 4 (some .int) 7 [vr G 0, vi e, vi w] mem xA (fun m' => mem = m') := by
  have c17 := hC.1
  have c16 := hC.2.1
  obtain ⟨w1, w2⟩ := hw
  refine TX.intro hl (by decide) rfl (Nat.le_of_ble_eq_true rfl) (fun X h he => ?_)
  refine jj_aload_n h d_X_look_0 rfl ⟨_, rfl⟩ ?_
  refine jj_g_X_tree h  fl_X_24 d_X_look_1 ?_
  refine jj_iload_n h d_X_look_4 rfl ?_
  refine jj_callV h (cT_entityAt h0 (by omega) (by omega)) cv_X_58 (ro_oX he (by first | decide | omega) (by decide)) rfl rfl (by decide) rfl rfl rfl (Nat.le_of_ble_eq_true rfl) d_X_look_5 (fun v m5 hv => ?_)
  obtain ⟨rfl, rfl⟩ := hv
  refine jj_astore_n h d_X_look_8 ⟨_, rfl⟩ (Nat.le_of_ble_eq_true rfl) rfl ?_
  refine jj_iload_n h d_X_look_9 rfl ?_
  refine jj_tableOut h 114 d_X_look_10 ⟨by omega, by omega⟩ (by omega) (by decide) ?_
  refine jj_thr h he 12 xk_A xk_X_xA xl_X_xA rfl d_X_look_114 d_X_look_117 d_X_look_118 d_X_look_120 d_X_look_123 (Nat.le_of_ble_eq_true rfl) (by first | decide | omega) rfl ?_
  rfl
theorem cX_length {G : mt_G} {l : Launch} {mem : mt_M} {L : List mt_E} {e f w : Int} (hC : RC mem L) (ho : okF L e f) (hw : w = 0 ∨ w = 1) : CT G l y_X_length c_X_length 5 (some .int) 2 [vr G 0, vi e, vi f, vi w] mem (fun v m' => v = some (vi (nv_ (gF L e f) w).length) ∧ mem = m') := by
  have c17 := hC.1
  have c16 := hC.2.1
  obtain ⟨⟨h0, h1⟩, f0, f1⟩ := ho
  obtain ⟨hN, ⟨-, hG, -, -⟩⟩ := hC.at h0 h1
  obtain ⟨g1, g2, g3⟩ := hG
  have hF := g3 f.toNat (gF L e f) (by unfold gF; rw [List.getElem?_eq_getElem (by omega), List.getD_eq_getElem?_getD, List.getElem?_eq_getElem (by omega)]; rfl)
  refine CT.intro (by decide) rfl (Nat.le_of_ble_eq_true rfl) (fun X h he => ?_)
  rcases hw with rfl | rfl
  · refine jj_aload_n h d_X_length_0 rfl ⟨_, rfl⟩ ?_
    refine jj_g_X_tree h  fl_X_24 d_X_length_1 ?_
    refine jj_iload_n h d_X_length_4 rfl ?_
    refine jj_callV h (cT_entityAt h0 (by omega) (by omega)) cv_X_58 (ro_of he (by first | decide | omega) (by decide)) rfl rfl (by decide) rfl rfl rfl (Nat.le_of_ble_eq_true rfl) d_X_length_5 (fun v m5 hv => ?_)
    obtain ⟨rfl, rfl⟩ := hv
    refine jj_iload_n h d_X_length_8 rfl ?_
    refine jj_callV h (cE_fieldAt hN f0 (by rw [g1]; exact f1) (by rw [g1]; omega)) cv_X_101 (ro_of he (by first | decide | omega) (by decide)) rfl rfl (by unfold mt_N; omega) (ce_E (by omega)) rfl rfl (Nat.le_of_ble_eq_true rfl) d_X_length_9 (fun v m9 hv => ?_)
    obtain ⟨rfl, rfl⟩ := hv
    refine jj_astore h d_X_length_12 ⟨_, rfl⟩ (Nat.le_of_ble_eq_true rfl) rfl ?_
    refine jj_iload_n h d_X_length_14 rfl ?_
    refine jj_lookup h (off := 25) 40 d_X_length_15 (by decide) ⟨by decide, by decide⟩ rfl (by decide) ?_
    refine jj_aload h d_X_length_40 rfl ⟨_, rfl⟩ ?_
    refine jj_g_F_nameSize h (by omega) fl_X_105 d_X_length_42 ?_
    refine jj_iret h he d_X_length_45 ?_
    exact ⟨by rw [hF.1.2.1]; rfl, rfl⟩
  · refine jj_aload_n h d_X_length_0 rfl ⟨_, rfl⟩ ?_
    refine jj_g_X_tree h  fl_X_24 d_X_length_1 ?_
    refine jj_iload_n h d_X_length_4 rfl ?_
    refine jj_callV h (cT_entityAt h0 (by omega) (by omega)) cv_X_58 (ro_of he (by first | decide | omega) (by decide)) rfl rfl (by decide) rfl rfl rfl (Nat.le_of_ble_eq_true rfl) d_X_length_5 (fun v m5 hv => ?_)
    obtain ⟨rfl, rfl⟩ := hv
    refine jj_iload_n h d_X_length_8 rfl ?_
    refine jj_callV h (cE_fieldAt hN f0 (by rw [g1]; exact f1) (by rw [g1]; omega)) cv_X_101 (ro_of he (by first | decide | omega) (by decide)) rfl rfl (by unfold mt_N; omega) (ce_E (by omega)) rfl rfl (Nat.le_of_ble_eq_true rfl) d_X_length_9 (fun v m9 hv => ?_)
    obtain ⟨rfl, rfl⟩ := hv
    refine jj_astore h d_X_length_12 ⟨_, rfl⟩ (Nat.le_of_ble_eq_true rfl) rfl ?_
    refine jj_iload_n h d_X_length_14 rfl ?_
    refine jj_lookup h (off := 31) 46 d_X_length_15 (by decide) ⟨by decide, by decide⟩ rfl (by decide) ?_
    refine jj_aload h d_X_length_46 rfl ⟨_, rfl⟩ ?_
    refine jj_g_F_valueSize h (by omega) fl_X_110 d_X_length_48 ?_
    refine jj_iret h he d_X_length_51 ?_
    exact ⟨by rw [hF.2.2.1]; rfl, rfl⟩
/-- what an entity's place and a field's place are worth -/
theorem tX_length1 {G : mt_G} {l : Launch} {mem : mt_M} {L : List mt_E} {e f w : Int} (hl : l.stackTraces = false) (hC : RC mem L) (he9 : r32 e) (hf : r32 f) (hn : ¬ okF L e f) : TX G l y_X_length c_X_length 5 (some .int) 7 [vr G 0, vi e, vi f, vi w] mem xN (fun m' => mem = m') := by
  have c17 := hC.1
  have c16 := hC.2.1
  refine TX.intro hl (by decide) rfl (Nat.le_of_ble_eq_true rfl) (fun X h he => ?_)
  by_cases hen : 0 ≤ e ∧ e < L.length
  · obtain ⟨hN, ⟨-, ⟨g1, g2, g3⟩, -, -⟩⟩ := hC.at hen.1 hen.2
    have e0 := hen.1
    have e1 := hen.2
    refine jj_aload_n h d_X_length_0 rfl ⟨_, rfl⟩ ?_
    refine jj_g_X_tree h  fl_X_24 d_X_length_1 ?_
    refine jj_iload_n h d_X_length_4 rfl ?_
    refine jj_callV h (cT_entityAt hen.1 (by omega) (by omega)) cv_X_58 (ro_oX he (by first | decide | omega) (by decide)) rfl rfl (by decide) rfl rfl rfl (Nat.le_of_ble_eq_true rfl) d_X_length_5 (fun v m5 hv => ?_)
    obtain ⟨rfl, rfl⟩ := hv
    refine jj_iload_n h d_X_length_8 rfl ?_
    refine jj_passV h he (tE_fieldAt (ox_l he) hN hf (by omega) (by rw [g1]; exact fun z => hn ⟨hen, z⟩)) cv_X_101 (by first | decide | omega) (by decide) rfl rfl (by unfold mt_N; omega) (ce_E (by omega)) rfl rfl (Nat.le_of_ble_eq_true rfl) d_X_length_9 (fun m9 hm9 => ?_)
    exact hm9
  · refine jj_aload_n h d_X_length_0 rfl ⟨_, rfl⟩ ?_
    refine jj_g_X_tree h  fl_X_24 d_X_length_1 ?_
    refine jj_iload_n h d_X_length_4 rfl ?_
    refine jj_passV h he (tT_entityAt (ox_l he) he9 (by omega) (by rw [c17]; exact hen)) cv_X_58 (by first | decide | omega) (by decide) rfl rfl (by decide) rfl rfl rfl (Nat.le_of_ble_eq_true rfl) d_X_length_5 (fun m9 hm9 => ?_)
    exact hm9
theorem tX_length2 {G : mt_G} {l : Launch} {mem : mt_M} {L : List mt_E} {e f w : Int} (hl : l.stackTraces = false) (hC : RC mem L) (ho : okF L e f) (hw : r32 w) (w0 : w ≠ 0) (w1 : w ≠ 1) : TX G l y_X_length c_X_length 5 (some .int) 7 [vr G 0, vi e, vi f, vi w] mem xA (fun m' => mem = m') := by
  have c17 := hC.1
  have c16 := hC.2.1
  obtain ⟨⟨h0, h1⟩, f0, f1⟩ := ho
  obtain ⟨hN, ⟨-, ⟨g1, g2, g3⟩, -, -⟩⟩ := hC.at h0 h1
  refine TX.intro hl (by decide) rfl (Nat.le_of_ble_eq_true rfl) (fun X h he => ?_)
  refine jj_aload_n h d_X_length_0 rfl ⟨_, rfl⟩ ?_
  refine jj_g_X_tree h  fl_X_24 d_X_length_1 ?_
  refine jj_iload_n h d_X_length_4 rfl ?_
  refine jj_callV h (cT_entityAt h0 (by omega) (by omega)) cv_X_58 (ro_oX he (by first | decide | omega) (by decide)) rfl rfl (by decide) rfl rfl rfl (Nat.le_of_ble_eq_true rfl) d_X_length_5 (fun v m5 hv => ?_)
  obtain ⟨rfl, rfl⟩ := hv
  refine jj_iload_n h d_X_length_8 rfl ?_
  refine jj_callV h (cE_fieldAt hN f0 (by rw [g1]; exact f1) (by rw [g1]; omega)) cv_X_101 (ro_oX he (by first | decide | omega) (by decide)) rfl rfl (by unfold mt_N; omega) (ce_E (by omega)) rfl rfl (Nat.le_of_ble_eq_true rfl) d_X_length_9 (fun v m9 hv => ?_)
  obtain ⟨rfl, rfl⟩ := hv
  refine jj_astore h d_X_length_12 ⟨_, rfl⟩ (Nat.le_of_ble_eq_true rfl) rfl ?_
  refine jj_iload_n h d_X_length_14 rfl ?_
  refine jj_lookup h (off := 37) 52 d_X_length_15 (by decide) hw (by simp [Op.lookupswitch.offset, w0, w1, w0.symm, w1.symm]) (by decide) ?_
  refine jj_thr h he 14 xk_A xk_X_xA xl_X_xA rfl d_X_length_52 d_X_length_55 d_X_length_56 d_X_length_58 d_X_length_61 (Nat.le_of_ble_eq_true rfl) (by first | decide | omega) rfl ?_
  rfl
theorem cX_letter {G : mt_G} {l : Launch} {mem : mt_M} {L : List mt_E} {e f w i : Int} (hC : RC mem L) (ho : okF L e f) (hw : w = 0 ∨ w = 1) (i0 : 0 ≤ i) (i1 : i < (nv_ (gF L e f) w).length) : CT G l y_X_letter c_X_letter 6 (some .int) 3 [vr G 0, vi e, vi f, vi w, vi i] mem (fun v m' => v = some (vi ((nv_ (gF L e f) w).getD i.toNat 0)) ∧ mem = m') := by
  have c17 := hC.1
  have c16 := hC.2.1
  have b3 := hC.2.2.2.1
  have b4 := hC.2.2.2.2.1
  obtain ⟨⟨h0, h1⟩, f0, f1⟩ := ho
  obtain ⟨hN, ⟨-, hG, -, -⟩⟩ := hC.at h0 h1
  obtain ⟨g1, g2, g3⟩ := hG
  obtain ⟨⟨p1, p2, p3, p4⟩, q1, q2, q3, q4⟩ := g3 f.toNat (gF L e f) (by unfold gF; rw [List.getElem?_eq_getElem (by omega), List.getD_eq_getElem?_getD, List.getElem?_eq_getElem (by omega)]; rfl)
  refine CT.intro (by decide) rfl (Nat.le_of_ble_eq_true rfl) (fun X h he => ?_)
  rcases hw with rfl | rfl
  · have en : nv_ (gF L e f) 0 = (gF L e f).1 := rfl
    rw [en] at i1
    have key : (gF L e f).1.getD i.toNat 0 = mem 11 (mem (54 + 8 * e.toNat + f.toNat) 0 + i) := slc_D p4 i0 i1
    refine jj_aload_n h d_X_letter_0 rfl ⟨_, rfl⟩ ?_
    refine jj_g_X_tree h  fl_X_24 d_X_letter_1 ?_
    refine jj_iload_n h d_X_letter_4 rfl ?_
    refine jj_callV h (cT_entityAt h0 (by omega) (by omega)) cv_X_58 (ro_of he (by first | decide | omega) (by decide)) rfl rfl (by decide) rfl rfl rfl (Nat.le_of_ble_eq_true rfl) d_X_letter_5 (fun v m5 hv => ?_)
    obtain ⟨rfl, rfl⟩ := hv
    refine jj_iload_n h d_X_letter_8 rfl ?_
    refine jj_callV h (cE_fieldAt hN f0 (by rw [g1]; exact f1) (by rw [g1]; omega)) cv_X_101 (ro_of he (by first | decide | omega) (by decide)) rfl rfl (by unfold mt_N; omega) (ce_E (by omega)) rfl rfl (Nat.le_of_ble_eq_true rfl) d_X_letter_9 (fun v m9 hv => ?_)
    obtain ⟨rfl, rfl⟩ := hv
    refine jj_astore h d_X_letter_12 ⟨_, rfl⟩ (Nat.le_of_ble_eq_true rfl) rfl ?_
    refine jj_iload_n h d_X_letter_14 rfl ?_
    refine jj_lookup h (off := 25) 40 d_X_letter_15 (by decide) ⟨by decide, by decide⟩ rfl (by decide) ?_
    refine jj_aload_n h d_X_letter_40 rfl ⟨_, rfl⟩ ?_
    refine jj_g_X_tree h  fl_X_24 d_X_letter_41 ?_
    refine jj_g_T_source h  fl_X_115 d_X_letter_44 ?_
    refine jj_aload h d_X_letter_47 rfl ⟨_, rfl⟩ ?_
    refine jj_g_F_nameBegin h (by omega) fl_X_118 d_X_letter_49 ?_
    refine jj_aload h d_X_letter_52 rfl ⟨_, rfl⟩ ?_
    refine jj_g_F_nameSize h (by omega) fl_X_105 d_X_letter_54 ?_
    refine jj_iload h d_X_letter_57 rfl ?_
    refine jj_callS h (cX_byteOf (r := 3) (by decide) p1 (by rw [p2]; exact p3) b3.2.2.1 i0 (by rw [p2]; exact i1)) cv_X_121 (ro_of he (by first | decide | omega) (by decide)) rfl rfl rfl (Nat.le_of_ble_eq_true rfl) d_X_letter_59 (fun v m59 hv => ?_)
    obtain ⟨rfl, rfl⟩ := hv
    refine jj_iret h he d_X_letter_62 ?_
    exact ⟨by rw [en, key], rfl⟩
  · have en : nv_ (gF L e f) 1 = (gF L e f).2 := rfl
    rw [en] at i1
    have key : (gF L e f).2.getD i.toNat 0 = mem 12 (mem (54 + 8 * e.toNat + f.toNat) 2 + i) := slc_D q4 i0 i1
    refine jj_aload_n h d_X_letter_0 rfl ⟨_, rfl⟩ ?_
    refine jj_g_X_tree h  fl_X_24 d_X_letter_1 ?_
    refine jj_iload_n h d_X_letter_4 rfl ?_
    refine jj_callV h (cT_entityAt h0 (by omega) (by omega)) cv_X_58 (ro_of he (by first | decide | omega) (by decide)) rfl rfl (by decide) rfl rfl rfl (Nat.le_of_ble_eq_true rfl) d_X_letter_5 (fun v m5 hv => ?_)
    obtain ⟨rfl, rfl⟩ := hv
    refine jj_iload_n h d_X_letter_8 rfl ?_
    refine jj_callV h (cE_fieldAt hN f0 (by rw [g1]; exact f1) (by rw [g1]; omega)) cv_X_101 (ro_of he (by first | decide | omega) (by decide)) rfl rfl (by unfold mt_N; omega) (ce_E (by omega)) rfl rfl (Nat.le_of_ble_eq_true rfl) d_X_letter_9 (fun v m9 hv => ?_)
    obtain ⟨rfl, rfl⟩ := hv
    refine jj_astore h d_X_letter_12 ⟨_, rfl⟩ (Nat.le_of_ble_eq_true rfl) rfl ?_
    refine jj_iload_n h d_X_letter_14 rfl ?_
    refine jj_lookup h (off := 48) 63 d_X_letter_15 (by decide) ⟨by decide, by decide⟩ rfl (by decide) ?_
    refine jj_aload_n h d_X_letter_63 rfl ⟨_, rfl⟩ ?_
    refine jj_g_X_tree h  fl_X_24 d_X_letter_64 ?_
    refine jj_g_T_values h  fl_X_125 d_X_letter_67 ?_
    refine jj_aload h d_X_letter_70 rfl ⟨_, rfl⟩ ?_
    refine jj_g_F_valueBegin h (by omega) fl_X_128 d_X_letter_72 ?_
    refine jj_aload h d_X_letter_75 rfl ⟨_, rfl⟩ ?_
    refine jj_g_F_valueSize h (by omega) fl_X_110 d_X_letter_77 ?_
    refine jj_iload h d_X_letter_80 rfl ?_
    refine jj_callS h (cX_byteOf (r := 4) (by decide) q1 (by rw [q2]; exact q3) b4.2.2.1 i0 (by rw [q2]; exact i1)) cv_X_121 (ro_of he (by first | decide | omega) (by decide)) rfl rfl rfl (Nat.le_of_ble_eq_true rfl) d_X_letter_82 (fun v m82 hv => ?_)
    obtain ⟨rfl, rfl⟩ := hv
    refine jj_iret h he d_X_letter_85 ?_
    exact ⟨by rw [en, key], rfl⟩
theorem tX_letter1 {G : mt_G} {l : Launch} {mem : mt_M} {L : List mt_E} {e f w i : Int} (hl : l.stackTraces = false) (hC : RC mem L) (he9 : r32 e) (hf : r32 f) (hn : ¬ okF L e f) : TX G l y_X_letter c_X_letter 6 (some .int) 7 [vr G 0, vi e, vi f, vi w, vi i] mem xN (fun m' => mem = m') := by
  have c17 := hC.1
  have c16 := hC.2.1
  refine TX.intro hl (by decide) rfl (Nat.le_of_ble_eq_true rfl) (fun X h he => ?_)
  by_cases hen : 0 ≤ e ∧ e < L.length
  · obtain ⟨hN, ⟨-, ⟨g1, g2, g3⟩, -, -⟩⟩ := hC.at hen.1 hen.2
    have e0 := hen.1
    have e1 := hen.2
    refine jj_aload_n h d_X_letter_0 rfl ⟨_, rfl⟩ ?_
    refine jj_g_X_tree h  fl_X_24 d_X_letter_1 ?_
    refine jj_iload_n h d_X_letter_4 rfl ?_
    refine jj_callV h (cT_entityAt hen.1 (by omega) (by omega)) cv_X_58 (ro_oX he (by first | decide | omega) (by decide)) rfl rfl (by decide) rfl rfl rfl (Nat.le_of_ble_eq_true rfl) d_X_letter_5 (fun v m5 hv => ?_)
    obtain ⟨rfl, rfl⟩ := hv
    refine jj_iload_n h d_X_letter_8 rfl ?_
    refine jj_passV h he (tE_fieldAt (ox_l he) hN hf (by omega) (by rw [g1]; exact fun z => hn ⟨hen, z⟩)) cv_X_101 (by first | decide | omega) (by decide) rfl rfl (by unfold mt_N; omega) (ce_E (by omega)) rfl rfl (Nat.le_of_ble_eq_true rfl) d_X_letter_9 (fun m9 hm9 => ?_)
    exact hm9
  · refine jj_aload_n h d_X_letter_0 rfl ⟨_, rfl⟩ ?_
    refine jj_g_X_tree h  fl_X_24 d_X_letter_1 ?_
    refine jj_iload_n h d_X_letter_4 rfl ?_
    refine jj_passV h he (tT_entityAt (ox_l he) he9 (by omega) (by rw [c17]; exact hen)) cv_X_58 (by first | decide | omega) (by decide) rfl rfl (by decide) rfl rfl rfl (Nat.le_of_ble_eq_true rfl) d_X_letter_5 (fun m9 hm9 => ?_)
    exact hm9
theorem tX_letter2 {G : mt_G} {l : Launch} {mem : mt_M} {L : List mt_E} {e f w i : Int} (hl : l.stackTraces = false) (hC : RC mem L) (ho : okF L e f) (hw : r32 w) (w0 : w ≠ 0) (w1 : w ≠ 1) : TX G l y_X_letter c_X_letter 6 (some .int) 7 [vr G 0, vi e, vi f, vi w, vi i] mem xA (fun m' => mem = m') := by
  have c17 := hC.1
  have c16 := hC.2.1
  obtain ⟨⟨h0, h1⟩, f0, f1⟩ := ho
  obtain ⟨hN, ⟨-, ⟨g1, g2, g3⟩, -, -⟩⟩ := hC.at h0 h1
  refine TX.intro hl (by decide) rfl (Nat.le_of_ble_eq_true rfl) (fun X h he => ?_)
  refine jj_aload_n h d_X_letter_0 rfl ⟨_, rfl⟩ ?_
  refine jj_g_X_tree h  fl_X_24 d_X_letter_1 ?_
  refine jj_iload_n h d_X_letter_4 rfl ?_
  refine jj_callV h (cT_entityAt h0 (by omega) (by omega)) cv_X_58 (ro_oX he (by first | decide | omega) (by decide)) rfl rfl (by decide) rfl rfl rfl (Nat.le_of_ble_eq_true rfl) d_X_letter_5 (fun v m5 hv => ?_)
  obtain ⟨rfl, rfl⟩ := hv
  refine jj_iload_n h d_X_letter_8 rfl ?_
  refine jj_callV h (cE_fieldAt hN f0 (by rw [g1]; exact f1) (by rw [g1]; omega)) cv_X_101 (ro_oX he (by first | decide | omega) (by decide)) rfl rfl (by unfold mt_N; omega) (ce_E (by omega)) rfl rfl (Nat.le_of_ble_eq_true rfl) d_X_letter_9 (fun v m9 hv => ?_)
  obtain ⟨rfl, rfl⟩ := hv
  refine jj_astore h d_X_letter_12 ⟨_, rfl⟩ (Nat.le_of_ble_eq_true rfl) rfl ?_
  refine jj_iload_n h d_X_letter_14 rfl ?_
  refine jj_lookup h (off := 71) 86 d_X_letter_15 (by decide) hw (by simp [Op.lookupswitch.offset, w0, w1, w0.symm, w1.symm]) (by decide) ?_
  refine jj_thr h he 14 xk_A xk_X_xA xl_X_xA rfl d_X_letter_86 d_X_letter_89 d_X_letter_90 d_X_letter_92 d_X_letter_95 (Nat.le_of_ble_eq_true rfl) (by first | decide | omega) rfl ?_
  rfl
theorem tX_letter3 {G : mt_G} {l : Launch} {mem : mt_M} {L : List mt_E} {e f w i : Int} (hl : l.stackTraces = false) (hC : RC mem L) (ho : okF L e f) (hw : w = 0 ∨ w = 1) (hi : r32 i) (hn : ¬ (0 ≤ i ∧ i < (nv_ (gF L e f) w).length)) : TX G l y_X_letter c_X_letter 6 (some .int) 7 [vr G 0, vi e, vi f, vi w, vi i] mem xN (fun m' => mem = m') := by
  have c17 := hC.1
  have c16 := hC.2.1
  have b3 := hC.2.2.2.1.2.2.1
  have b4 := hC.2.2.2.2.1.2.2.1
  have l3 : ln_ (3 + 8) = 320 := rfl
  have l4 : ln_ (4 + 8) = 320 := rfl
  obtain ⟨⟨h0, h1⟩, f0, f1⟩ := ho
  obtain ⟨hN, ⟨-, ⟨g1, g2, g3⟩, -, -⟩⟩ := hC.at h0 h1
  obtain ⟨⟨p1, p2, p3, p4⟩, q1, q2, q3, q4⟩ := g3 f.toNat (gF L e f) (by unfold gF; rw [List.getElem?_eq_getElem (by omega), List.getD_eq_getElem?_getD, List.getElem?_eq_getElem (by omega)]; rfl)
  refine TX.intro hl (by decide) rfl (Nat.le_of_ble_eq_true rfl) (fun X h he => ?_)
  rcases hw with rfl | rfl
  · refine jj_aload_n h d_X_letter_0 rfl ⟨_, rfl⟩ ?_
    refine jj_g_X_tree h  fl_X_24 d_X_letter_1 ?_
    refine jj_iload_n h d_X_letter_4 rfl ?_
    refine jj_callV h (cT_entityAt h0 (by omega) (by omega)) cv_X_58 (ro_oX he (by first | decide | omega) (by decide)) rfl rfl (by decide) rfl rfl rfl (Nat.le_of_ble_eq_true rfl) d_X_letter_5 (fun v m5 hv => ?_)
    obtain ⟨rfl, rfl⟩ := hv
    refine jj_iload_n h d_X_letter_8 rfl ?_
    refine jj_callV h (cE_fieldAt hN f0 (by rw [g1]; exact f1) (by rw [g1]; omega)) cv_X_101 (ro_oX he (by first | decide | omega) (by decide)) rfl rfl (by unfold mt_N; omega) (ce_E (by omega)) rfl rfl (Nat.le_of_ble_eq_true rfl) d_X_letter_9 (fun v m9 hv => ?_)
    obtain ⟨rfl, rfl⟩ := hv
    refine jj_astore h d_X_letter_12 ⟨_, rfl⟩ (Nat.le_of_ble_eq_true rfl) rfl ?_
    refine jj_iload_n h d_X_letter_14 rfl ?_
    refine jj_lookup h (off := 25) 40 d_X_letter_15 (by decide) ⟨by decide, by decide⟩ rfl (by decide) ?_
    refine jj_aload_n h d_X_letter_40 rfl ⟨_, rfl⟩ ?_
    refine jj_g_X_tree h  fl_X_24 d_X_letter_41 ?_
    refine jj_g_T_source h  fl_X_115 d_X_letter_44 ?_
    refine jj_aload h d_X_letter_47 rfl ⟨_, rfl⟩ ?_
    refine jj_g_F_nameBegin h (by omega) fl_X_118 d_X_letter_49 ?_
    refine jj_aload h d_X_letter_52 rfl ⟨_, rfl⟩ ?_
    refine jj_g_F_nameSize h (by omega) fl_X_105 d_X_letter_54 ?_
    refine jj_iload h d_X_letter_57 rfl ?_
    refine jj_passS h he (tX_byteOf (ox_l he) ⟨by omega, by omega⟩ hi (by rw [p2]; exact hn)) cv_X_121 (by first | decide | omega) (by decide) rfl rfl rfl (Nat.le_of_ble_eq_true rfl) d_X_letter_59 (fun m9 hm9 => ?_)
    exact hm9
  · refine jj_aload_n h d_X_letter_0 rfl ⟨_, rfl⟩ ?_
    refine jj_g_X_tree h  fl_X_24 d_X_letter_1 ?_
    refine jj_iload_n h d_X_letter_4 rfl ?_
    refine jj_callV h (cT_entityAt h0 (by omega) (by omega)) cv_X_58 (ro_oX he (by first | decide | omega) (by decide)) rfl rfl (by decide) rfl rfl rfl (Nat.le_of_ble_eq_true rfl) d_X_letter_5 (fun v m5 hv => ?_)
    obtain ⟨rfl, rfl⟩ := hv
    refine jj_iload_n h d_X_letter_8 rfl ?_
    refine jj_callV h (cE_fieldAt hN f0 (by rw [g1]; exact f1) (by rw [g1]; omega)) cv_X_101 (ro_oX he (by first | decide | omega) (by decide)) rfl rfl (by unfold mt_N; omega) (ce_E (by omega)) rfl rfl (Nat.le_of_ble_eq_true rfl) d_X_letter_9 (fun v m9 hv => ?_)
    obtain ⟨rfl, rfl⟩ := hv
    refine jj_astore h d_X_letter_12 ⟨_, rfl⟩ (Nat.le_of_ble_eq_true rfl) rfl ?_
    refine jj_iload_n h d_X_letter_14 rfl ?_
    refine jj_lookup h (off := 48) 63 d_X_letter_15 (by decide) ⟨by decide, by decide⟩ rfl (by decide) ?_
    refine jj_aload_n h d_X_letter_63 rfl ⟨_, rfl⟩ ?_
    refine jj_g_X_tree h  fl_X_24 d_X_letter_64 ?_
    refine jj_g_T_values h  fl_X_125 d_X_letter_67 ?_
    refine jj_aload h d_X_letter_70 rfl ⟨_, rfl⟩ ?_
    refine jj_g_F_valueBegin h (by omega) fl_X_128 d_X_letter_72 ?_
    refine jj_aload h d_X_letter_75 rfl ⟨_, rfl⟩ ?_
    refine jj_g_F_valueSize h (by omega) fl_X_110 d_X_letter_77 ?_
    refine jj_iload h d_X_letter_80 rfl ?_
    refine jj_passS h he (tX_byteOf (ox_l he) ⟨by omega, by omega⟩ hi (by rw [q2]; exact hn)) cv_X_121 (by first | decide | omega) (by decide) rfl rfl rfl (Nat.le_of_ble_eq_true rfl) d_X_letter_82 (fun m9 hm9 => ?_)
    exact hm9
theorem cX_content {G : mt_G} {l : Launch} {mem : mt_M} {L : List mt_E} {e i : Int} (hC : RC mem L) (ho : okC L e i) : CT G l y_X_content c_X_content 4 (some .int) 3 [vr G 0, vi e, vi i] mem (fun v m' => v = some (vi ((gE L e).2.2.1.getD i.toNat 0)) ∧ mem = m') := by
  have c17 := hC.1
  have c16 := hC.2.1
  have b5 := hC.2.2.2.2.2.1
  obtain ⟨⟨h0, h1⟩, i0, i1⟩ := ho
  obtain ⟨hN, ⟨-, -, ⟨k1, k2, k3, k4⟩, -⟩⟩ := hC.at h0 h1
  have key : (gE L e).2.2.1.getD i.toNat 0 = mem 13 (mem (22 + e.toNat) 8 + i) := slc_D k4 i0 i1
  refine CT.intro (by decide) rfl (Nat.le_of_ble_eq_true rfl) (fun X h he => ?_)
  refine jj_aload_n h d_X_content_0 rfl ⟨_, rfl⟩ ?_
  refine jj_g_X_tree h  fl_X_24 d_X_content_1 ?_
  refine jj_iload_n h d_X_content_4 rfl ?_
  refine jj_callV h (cT_entityAt h0 (by omega) (by omega)) cv_X_58 (ro_of he (by first | decide | omega) (by decide)) rfl rfl (by decide) rfl rfl rfl (Nat.le_of_ble_eq_true rfl) d_X_content_5 (fun v m5 hv => ?_)
  obtain ⟨rfl, rfl⟩ := hv
  refine jj_astore_n h d_X_content_8 ⟨_, rfl⟩ (Nat.le_of_ble_eq_true rfl) rfl ?_
  refine jj_aload_n h d_X_content_9 rfl ⟨_, rfl⟩ ?_
  refine jj_g_X_tree h  fl_X_24 d_X_content_10 ?_
  refine jj_g_T_contents h  fl_X_131 d_X_content_13 ?_
  refine jj_aload_n h d_X_content_16 rfl ⟨_, rfl⟩ ?_
  refine jj_g_E_contentBegin h (by omega) fl_X_134 d_X_content_17 ?_
  refine jj_aload_n h d_X_content_20 rfl ⟨_, rfl⟩ ?_
  refine jj_g_E_contentSize h (by omega) fl_X_79 d_X_content_21 ?_
  refine jj_iload_n h d_X_content_24 rfl ?_
  refine jj_callS h (cX_byteOf (r := 5) (by decide) k1 (by rw [k2]; exact k3) b5.2.2.1 i0 (by rw [k2]; exact i1)) cv_X_121 (ro_of he (by first | decide | omega) (by decide)) rfl rfl rfl (Nat.le_of_ble_eq_true rfl) d_X_content_25 (fun v m25 hv => ?_)
  obtain ⟨rfl, rfl⟩ := hv
  refine jj_iret h he d_X_content_28 ?_
  exact ⟨by rw [key], rfl⟩
theorem tX_content {G : mt_G} {l : Launch} {mem : mt_M} {L : List mt_E} {e i : Int} (hl : l.stackTraces = false) (hC : RC mem L) (he9 : r32 e) (hi : r32 i) (hn : ¬ okC L e i) : TX G l y_X_content c_X_content 4 (some .int) 7 [vr G 0, vi e, vi i] mem xN (fun m' => mem = m') := by
  have c17 := hC.1
  have c16 := hC.2.1
  have b5 := hC.2.2.2.2.2.1.2.2.1
  have l5 : ln_ (5 + 8) = 320 := rfl
  refine TX.intro hl (by decide) rfl (Nat.le_of_ble_eq_true rfl) (fun X h he => ?_)
  by_cases hen : 0 ≤ e ∧ e < L.length
  · obtain ⟨hN, ⟨-, -, ⟨k1, k2, k3, k4⟩, -⟩⟩ := hC.at hen.1 hen.2
    have e0 := hen.1
    have e1 := hen.2
    refine jj_aload_n h d_X_content_0 rfl ⟨_, rfl⟩ ?_
    refine jj_g_X_tree h  fl_X_24 d_X_content_1 ?_
    refine jj_iload_n h d_X_content_4 rfl ?_
    refine jj_callV h (cT_entityAt hen.1 (by omega) (by omega)) cv_X_58 (ro_oX he (by first | decide | omega) (by decide)) rfl rfl (by decide) rfl rfl rfl (Nat.le_of_ble_eq_true rfl) d_X_content_5 (fun v m5 hv => ?_)
    obtain ⟨rfl, rfl⟩ := hv
    refine jj_astore_n h d_X_content_8 ⟨_, rfl⟩ (Nat.le_of_ble_eq_true rfl) rfl ?_
    refine jj_aload_n h d_X_content_9 rfl ⟨_, rfl⟩ ?_
    refine jj_g_X_tree h  fl_X_24 d_X_content_10 ?_
    refine jj_g_T_contents h  fl_X_131 d_X_content_13 ?_
    refine jj_aload_n h d_X_content_16 rfl ⟨_, rfl⟩ ?_
    refine jj_g_E_contentBegin h (by omega) fl_X_134 d_X_content_17 ?_
    refine jj_aload_n h d_X_content_20 rfl ⟨_, rfl⟩ ?_
    refine jj_g_E_contentSize h (by omega) fl_X_79 d_X_content_21 ?_
    refine jj_iload_n h d_X_content_24 rfl ?_
    refine jj_passS h he (tX_byteOf (ox_l he) ⟨by omega, by omega⟩ hi (by rw [k2]; exact fun z => hn ⟨hen, z⟩)) cv_X_121 (by first | decide | omega) (by decide) rfl rfl rfl (Nat.le_of_ble_eq_true rfl) d_X_content_25 (fun m9 hm9 => ?_)
    exact hm9
  · refine jj_aload_n h d_X_content_0 rfl ⟨_, rfl⟩ ?_
    refine jj_g_X_tree h  fl_X_24 d_X_content_1 ?_
    refine jj_iload_n h d_X_content_4 rfl ?_
    refine jj_passV h he (tT_entityAt (ox_l he) he9 (by omega) (by rw [c17]; exact hen)) cv_X_58 (by first | decide | omega) (by decide) rfl rfl (by decide) rfl rfl rfl (Nat.le_of_ble_eq_true rfl) d_X_content_5 (fun m9 hm9 => ?_)
    exact hm9
theorem cX_boundary {G : mt_G} {l : Launch} {mem : mt_M} {L : List mt_E} {e i : Int} (hC : RC mem L) (h0 : 0 ≤ e) (h1 : e < L.length) (hi : r32 i) (hB : (gE L e).1 0 ≠ 1 → (gE L e).2.2.2 = []) : CT G l y_X_boundary c_X_boundary 4 (some .int) 2 [vr G 0, vi e, vi i] mem (fun v m' => v = some (vi (bdS (gE L e) i)) ∧ mem = m') := by
  have c17 := hC.1
  have c16 := hC.2.1
  have b6 := hC.2.2.2.2.2.2.1
  have l6 : ln_ (6 + 8) = 320 := rfl
  have s6 := b6.2.2.1
  obtain ⟨i1, i2⟩ := hi
  obtain ⟨hN, ⟨-, -, -, ⟨k1, k2, k3, k4⟩⟩⟩ := hC.at h0 h1
  have key : bdS (gE L e) i = if 0 ≤ i ∧ i < (gE L e).2.2.2.length then mem 14 (mem (22 + e.toNat) 10 + i) else -1 := by
    unfold bdS
    by_cases hk : (gE L e).1 0 = 1
    · by_cases hin : 0 ≤ i ∧ i < (gE L e).2.2.2.length
      · rw [if_pos ⟨hk, hin⟩, if_pos hin]
        exact slc_D k4 hin.1 hin.2
      · rw [if_neg (fun z => hin z.2), if_neg hin]
    · have hz := hB hk
      rw [if_neg (fun z => hk z.1), if_neg (fun z => by rw [hz] at z; have := z.2; simp at this; omega)]
  rw [key]
  refine CT.intro (by decide) rfl (Nat.le_of_ble_eq_true rfl) (fun X h he => ?_)
  refine jj_aload_n h d_X_boundary_0 rfl ⟨_, rfl⟩ ?_
  refine jj_g_X_tree h  fl_X_24 d_X_boundary_1 ?_
  try simp only [k2]
  refine jj_iload_n h d_X_boundary_4 rfl ?_
  refine jj_callV h (cT_entityAt h0 (by omega) (by omega)) cv_X_58 (ro_of he (by first | decide | omega) (by decide)) rfl rfl (by decide) rfl rfl rfl (Nat.le_of_ble_eq_true rfl) d_X_boundary_5 (fun v m5 hv => ?_)
  obtain ⟨rfl, rfl⟩ := hv
  refine jj_astore_n h d_X_boundary_8 ⟨_, rfl⟩ (Nat.le_of_ble_eq_true rfl) rfl ?_
  refine jj_iload_n h d_X_boundary_9 rfl ?_
  refine jj_if_lt h 21 d_X_boundary_10 (by decide) ⟨by omega, by omega⟩ (fun q10 => ?_) (fun q10 => ?_)
  · refine jj_iconst h d_X_boundary_21 ?_
    refine jj_iret h he d_X_boundary_22 ?_
    exact ⟨by rw [if_neg (by omega)], rfl⟩
  · refine jj_iload_n h d_X_boundary_13 rfl ?_
    refine jj_aload_n h d_X_boundary_14 rfl ⟨_, rfl⟩ ?_
    refine jj_g_E_boundarySize h (by omega) fl_X_137 d_X_boundary_15 ?_
    try simp only [k2]
    refine jj_icmp_lt h 23 d_X_boundary_18 (by decide) ⟨by omega, by omega⟩ ⟨by omega, by omega⟩ (fun q18 => ?_) (fun q18 => ?_)
    · refine jj_aload_n h d_X_boundary_23 rfl ⟨_, rfl⟩ ?_
      refine jj_g_X_tree h  fl_X_24 d_X_boundary_24 ?_
      try simp only [k2]
      refine jj_g_T_boundaries h  fl_X_140 d_X_boundary_27 ?_
      try simp only [k2]
      refine jj_aload_n h d_X_boundary_30 rfl ⟨_, rfl⟩ ?_
      refine jj_g_E_boundaryBegin h (by omega) fl_X_143 d_X_boundary_31 ?_
      try simp only [k2]
      refine jj_iload_n h d_X_boundary_34 rfl ?_
      refine jj_iadd h d_X_boundary_35 ?_
      refine jj_callV h (cB_at (r := 6) (by decide) b6.2.1 b6.2.2.1 ⟨by omega, by omega⟩) cv_X_146 (ro_of he (by first | decide | omega) (by decide)) rfl rfl (by unfold mt_N; omega) (ce_B (by omega)) rfl rfl (Nat.le_of_ble_eq_true rfl) d_X_boundary_36 (fun v m36 hv => ?_)
      obtain ⟨rfl, rfl⟩ := hv
      refine jj_iret h he d_X_boundary_39 ?_
      exact ⟨by unfold bA_; rw [if_pos (by omega), if_pos (by omega)], rfl⟩
    · refine jj_iconst h d_X_boundary_21 ?_
      refine jj_iret h he d_X_boundary_22 ?_
      exact ⟨by rw [if_neg (by omega)], rfl⟩
theorem tX_boundary {G : mt_G} {l : Launch} {mem : mt_M} {L : List mt_E} {e i : Int} (hl : l.stackTraces = false) (hC : RC mem L) (he9 : r32 e) (hn : ¬ (0 ≤ e ∧ e < L.length)) : TX G l y_X_boundary c_X_boundary 4 (some .int) 7 [vr G 0, vi e, vi i] mem xN (fun m' => mem = m') := by
  have c17 := hC.1
  have c16 := hC.2.1
  refine TX.intro hl (by decide) rfl (Nat.le_of_ble_eq_true rfl) (fun X h he => ?_)
  refine jj_aload_n h d_X_boundary_0 rfl ⟨_, rfl⟩ ?_
  refine jj_g_X_tree h  fl_X_24 d_X_boundary_1 ?_
  refine jj_iload_n h d_X_boundary_4 rfl ?_
  refine jj_passV h he (tT_entityAt (ox_l he) he9 (by omega) (by rw [c17]; exact hn)) cv_X_58 (by first | decide | omega) (by decide) rfl rfl (by decide) rfl rfl rfl (Nat.le_of_ble_eq_true rfl) d_X_boundary_5 (fun m9 hm9 => ?_)
  exact hm9
