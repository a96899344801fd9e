/-! The reference: what it tells of the tree. -/
def fl_ (a b : Int) : Int := if a = 1 then 1 else if b = 1 then 2 else 0
theorem cM_fails {G : mt_G} {l : Launch} {mem : mt_M} {a b : Int} (ha : a = 0 ∨ a = 1) (hb : b = 0 ∨ b = 1) : CT G l y_M_fails c_M_fails 3 (some .boolean) 1 [vr G 182, vi a, vi b] mem (fun v m' => v = some (vi (if 0 < fl_ a b then 1 else 0)) ∧ st_ mem 182 0 (fl_ a b) = m') := by
  refine CT.intro (by decide) rfl (Nat.le_of_ble_eq_true rfl) (fun X h he => ?_)
  rcases ha with rfl | rfl
  · rcases hb with rfl | rfl
    · refine jj_aload_n h d_M_fails_0 rfl ⟨_, rfl⟩ ?_
      refine jj_iload_n h d_M_fails_1 rfl ?_
      refine jj_if_eq h 9 d_M_fails_2 (by decide) ⟨by decide, by decide⟩ (fun _ => ?_) (fun q2 => absurd (rfl) q2)
      refine jj_iload_n h d_M_fails_9 rfl ?_
      refine jj_if_eq h 17 d_M_fails_10 (by decide) ⟨by decide, by decide⟩ (fun _ => ?_) (fun q10 => absurd (rfl) q10)
      refine jj_iconst h d_M_fails_17 ?_
      refine jj_p_M_thrown h  fl_M_43 d_M_fails_18 ?_
      refine jj_aload_n h d_M_fails_21 rfl ⟨_, rfl⟩ ?_
      refine jj_g_M_thrown h  fl_M_43 d_M_fails_22 ?_
      try simp only [st_at, Nat.reduceEqDiff, Int.reduceEq, and_self, true_and, and_true, false_and, and_false, reduceIte]
      refine jj_if_le h 32 d_M_fails_25 (by decide) ⟨by decide, by decide⟩ (fun _ => ?_) (fun q25 => absurd ((by decide)) q25)
      refine jj_iconst h d_M_fails_32 ?_
      refine jj_zret h he (by omega) d_M_fails_33 ?_
      exact ⟨rfl, rfl⟩
    · refine jj_aload_n h d_M_fails_0 rfl ⟨_, rfl⟩ ?_
      refine jj_iload_n h d_M_fails_1 rfl ?_
      refine jj_if_eq h 9 d_M_fails_2 (by decide) ⟨by decide, by decide⟩ (fun _ => ?_) (fun q2 => absurd (rfl) q2)
      refine jj_iload_n h d_M_fails_9 rfl ?_
      refine jj_if_eq h 17 d_M_fails_10 (by decide) ⟨by decide, by decide⟩ (fun q10 => absurd q10 ((by decide))) (fun _ => ?_)
      refine jj_iconst h d_M_fails_13 ?_
      refine jj_goto h 18 d_M_fails_14 (by decide) ?_
      refine jj_p_M_thrown h  fl_M_43 d_M_fails_18 ?_
      refine jj_aload_n h d_M_fails_21 rfl ⟨_, rfl⟩ ?_
      refine jj_g_M_thrown h  fl_M_43 d_M_fails_22 ?_
      try simp only [st_at, Nat.reduceEqDiff, Int.reduceEq, and_self, true_and, and_true, false_and, and_false, reduceIte]
      refine jj_if_le h 32 d_M_fails_25 (by decide) ⟨by decide, by decide⟩ (fun q25 => absurd q25 ((by decide))) (fun _ => ?_)
      refine jj_iconst h d_M_fails_28 ?_
      refine jj_goto h 33 d_M_fails_29 (by decide) ?_
      refine jj_zret h he (by omega) d_M_fails_33 ?_
      exact ⟨rfl, rfl⟩
  · refine jj_aload_n h d_M_fails_0 rfl ⟨_, rfl⟩ ?_
    refine jj_iload_n h d_M_fails_1 rfl ?_
    refine jj_if_eq h 9 d_M_fails_2 (by decide) ⟨by decide, by decide⟩ (fun q2 => absurd q2 ((by decide))) (fun _ => ?_)
    refine jj_iconst h d_M_fails_5 ?_
    refine jj_goto h 18 d_M_fails_6 (by decide) ?_
    refine jj_p_M_thrown h  fl_M_43 d_M_fails_18 ?_
    refine jj_aload_n h d_M_fails_21 rfl ⟨_, rfl⟩ ?_
    refine jj_g_M_thrown h  fl_M_43 d_M_fails_22 ?_
    try simp only [st_at, Nat.reduceEqDiff, Int.reduceEq, and_self, true_and, and_true, false_and, and_false, reduceIte]
    refine jj_if_le h 32 d_M_fails_25 (by decide) ⟨by decide, by decide⟩ (fun q25 => absurd q25 ((by decide))) (fun _ => ?_)
    refine jj_iconst h d_M_fails_28 ?_
    refine jj_goto h 33 d_M_fails_29 (by decide) ?_
    refine jj_zret h he (by omega) d_M_fails_33 ?_
    exact ⟨by unfold fl_; rw [if_pos rfl]; rfl, by unfold fl_; rw [if_pos rfl]⟩
theorem cM_clear {G : mt_G} {l : Launch} {mem : mt_M} : CT G l y_M_clear c_M_clear 2 (some .int) 1 [vr G 182] mem (fun v m' => v = some (vi (mem 182 1)) ∧ st_ (st_ mem 182 0 0) 182 1 0 = m') := by
  refine CT.intro (by decide) rfl (Nat.le_of_ble_eq_true rfl) (fun X h he => ?_)
  refine jj_aload_n h d_M_clear_0 rfl ⟨_, rfl⟩ ?_
  refine jj_iconst h d_M_clear_1 ?_
  refine jj_p_M_thrown h  fl_M_43 d_M_clear_2 ?_
  refine jj_aload_n h d_M_clear_5 rfl ⟨_, rfl⟩ ?_
  refine jj_g_M_fed h  fl_M_47 d_M_clear_6 ?_
  try simp only [st_at, Nat.reduceEqDiff, Int.reduceEq, and_self, true_and, and_true, false_and, and_false, reduceIte]
  refine jj_istore_n h d_M_clear_9 (Nat.le_of_ble_eq_true rfl) rfl ?_
  refine jj_aload_n h d_M_clear_10 rfl ⟨_, rfl⟩ ?_
  refine jj_iconst h d_M_clear_11 ?_
  refine jj_p_M_fed h  fl_M_47 d_M_clear_12 ?_
  refine jj_iload_n h d_M_clear_15 rfl ?_
  refine jj_iret h he d_M_clear_16 ?_
  exact ⟨rfl, rfl⟩
theorem cM_entities {G : mt_G} {l : Launch} {mem : mt_M} : CT G l y_M_entities c_M_entities 1 (some .int) 1 [vr G 182] mem (fun v m' => v = some (vi (mem 182 5)) ∧ st_ mem 182 0 0 = m') := by
  refine CT.intro (by decide) rfl (Nat.le_of_ble_eq_true rfl) (fun X h he => ?_)
  refine jj_aload_n h d_M_entities_0 rfl ⟨_, rfl⟩ ?_
  refine jj_iconst h d_M_entities_1 ?_
  refine jj_p_M_thrown h  fl_M_43 d_M_entities_2 ?_
  refine jj_aload_n h d_M_entities_5 rfl ⟨_, rfl⟩ ?_
  refine jj_g_M_entities h  fl_M_196 d_M_entities_6 ?_
  try simp only [st_at, Nat.reduceEqDiff, Int.reduceEq, and_self, true_and, and_true, false_and, and_false, reduceIte]
  refine jj_iret h he d_M_entities_9 ?_
  exact ⟨rfl, rfl⟩
/-- the reference holds the tree L -/
def RM (mem : mt_M) (L : List mt_E) : Prop := RepE mem L ∧ mem 182 5 = L.length ∧ L.length ≤ 16 ∧ tb_ mem
def gE (L : List mt_E) (e : Int) : mt_E := L.getD e.toNat (fun _ => 0, [], [], [])
theorem RM.at {mem : mt_M} {L : List mt_E} (h : RM mem L) {e : Int} (h0 : 0 ≤ e) (h1 : e < L.length) : rE mem e (gE L e) := by
  have hl : e.toNat < L.length := by omega
  have := h.1 e.toNat (gE L e) (by unfold gE; rw [List.getElem?_eq_getElem hl, List.getD_eq_getElem?_getD, List.getElem?_eq_getElem hl]; rfl)
  rw [Int.toNat_of_nonneg h0] at this
  exact this
theorem cM_isEntity {G : mt_G} {l : Launch} {mem : mt_M} {L : List mt_E} {e : Int} (h9 : RM mem L) (he : r32 e) : CT G l y_M_isEntity c_M_isEntity 2 (some .boolean) 1 [vr G 182, vi e] mem (fun v m' => v = some (vi (if 0 ≤ e ∧ e < L.length then 1 else 0)) ∧ mem = m') := by
  obtain ⟨e1, e2⟩ := he
  have hn := h9.2.1
  have hl := h9.2.2.1
  refine CT.intro (by decide) rfl (Nat.le_of_ble_eq_true rfl) (fun X h he => ?_)
  refine jj_iload_n h d_M_isEntity_0 rfl ?_
  refine jj_if_lt h 16 d_M_isEntity_1 (by decide) ⟨by omega, by omega⟩ (fun q1 => ?_) (fun q1 => ?_)
  · refine jj_iconst h d_M_isEntity_16 ?_
    refine jj_zret h he (by omega) d_M_isEntity_17 ?_
    first | exact ⟨by rw [if_pos (by omega)], rfl⟩ | exact ⟨by rw [if_neg (by omega)], rfl⟩
  · refine jj_iload_n h d_M_isEntity_4 rfl ?_
    refine jj_aload_n h d_M_isEntity_5 rfl ⟨_, rfl⟩ ?_
    refine jj_g_M_entities h  fl_M_196 d_M_isEntity_6 ?_
    try simp only [hn]
    refine jj_icmp_ge h 16 d_M_isEntity_9 (by decide) ⟨by omega, by omega⟩ ⟨by omega, by omega⟩ (fun q9 => ?_) (fun q9 => ?_)
    · refine jj_iconst h d_M_isEntity_16 ?_
      refine jj_zret h he (by omega) d_M_isEntity_17 ?_
      first | exact ⟨by rw [if_pos (by omega)], rfl⟩ | exact ⟨by rw [if_neg (by omega)], rfl⟩
    · refine jj_iconst h d_M_isEntity_12 ?_
      refine jj_goto h 17 d_M_isEntity_13 (by decide) ?_
      refine jj_zret h he (by omega) d_M_isEntity_17 ?_
      first | exact ⟨by rw [if_pos (by omega)], rfl⟩ | exact ⟨by rw [if_neg (by omega)], rfl⟩
def lkS (L : List mt_E) (e w : Int) : Int × Int := if 0 ≤ e ∧ e < L.length then (if 0 ≤ w ∧ w ≤ 9 then (0, (gE L e).1 w) else (2, 0)) else (1, 0)
theorem cM_look {G : mt_G} {l : Launch} {mem : mt_M} {L : List mt_E} {e w : Int} (h9 : RM mem L) (he : r32 e) (hw : r32 w) : CT G l y_M_look c_M_look 4 (some .int) 2 [vr G 182, vi e, vi w] mem (fun v m' => v = some (vi (lkS L e w).2) ∧ st_ mem 182 0 (lkS L e w).1 = m') := by
  have hl := h9.2.2.1
  obtain ⟨w1, w2⟩ := hw
  have her := he
  refine CT.intro (by decide) rfl (Nat.le_of_ble_eq_true rfl) (fun X h he => ?_)
  unfold lkS at he
  by_cases hE : 0 ≤ e ∧ e < L.length
  · rw [if_pos hE] at he
    have hR := h9.at hE.1 hE.2
    by_cases hW : 0 ≤ w ∧ w ≤ 9
    · rw [if_pos hW] at he
      refine jj_aload_n h d_M_look_0 rfl ⟨_, rfl⟩ ?_
      refine jj_iload_n h d_M_look_1 rfl ?_
      refine jj_callV h (cM_isEntity h9 her) cv_M_224 (ro_of he (by decide) (by decide)) rfl rfl (by decide) rfl rfl rfl (Nat.le_of_ble_eq_true rfl) d_M_look_2 (fun v m2 hv => ?_)
      obtain ⟨rfl, rfl⟩ := hv
      rw [if_pos hE]
      refine jj_if_ne h 12 d_M_look_5 (by decide) ⟨by decide, by decide⟩ (fun _ => ?_) (fun q5 => absurd q5 ((by decide)))
      refine jj_iconst h d_M_look_12 ?_
      refine jj_istore_n h d_M_look_13 (Nat.le_of_ble_eq_true rfl) rfl ?_
      refine jj_aload_n h d_M_look_14 rfl ⟨_, rfl⟩ ?_
      refine jj_iload_n h d_M_look_15 rfl ?_
      refine jj_iload_n h d_M_look_16 rfl ?_
      refine jj_if_ne h 34 d_M_look_17 (by decide) ⟨by decide, by decide⟩ (fun q17 => absurd (rfl) q17) (fun _ => ?_)
      refine jj_iload_n h d_M_look_20 rfl ?_
      refine jj_if_lt h 30 d_M_look_21 (by decide) ⟨by omega, by omega⟩ (fun q21 => absurd q21 (by omega)) (fun _ => ?_)
      refine jj_iload_n h d_M_look_24 rfl ?_
      refine jj_bipush h d_M_look_25 (by decide) ?_
      refine jj_icmp_le h 34 d_M_look_27 (by decide) ⟨by omega, by omega⟩ ⟨by omega, by omega⟩ (fun _ => ?_) (fun q27 => absurd (by omega) q27)
      refine jj_iconst h d_M_look_34 ?_
      refine jj_callV h (cM_fails (Or.inl rfl) (Or.inl rfl)) cv_M_227 (ro_of he (by decide) (by decide)) rfl rfl (by decide) rfl rfl rfl (Nat.le_of_ble_eq_true rfl) d_M_look_35 (fun v m35 hv => ?_)
      obtain ⟨rfl, rfl⟩ := hv
      refine jj_if_eq h 45 d_M_look_38 (by decide) ⟨by decide, by decide⟩ (fun _ => ?_) (fun q38 => absurd (rfl) q38)
      refine jj_aload_n h d_M_look_45 rfl ⟨_, rfl⟩ ?_
      refine jj_iload_n h d_M_look_46 rfl ?_
      refine jj_iload_n h d_M_look_47 rfl ?_
      refine jj_callV h (cM_of (by omega) (by omega)) cv_M_59 (ro_of he (by decide) (by decide)) rfl rfl (by decide) rfl rfl rfl (Nat.le_of_ble_eq_true rfl) d_M_look_48 (fun v m48 hv => ?_)
      obtain ⟨rfl, rfl⟩ := hv
      rw [st_row (by decide), hR.1 w hW.1 hW.2]
      refine jj_iret h he d_M_look_51 ?_
      exact ⟨rfl, rfl⟩
    · rw [if_neg hW] at he
      refine jj_aload_n h d_M_look_0 rfl ⟨_, rfl⟩ ?_
      refine jj_iload_n h d_M_look_1 rfl ?_
      refine jj_callV h (cM_isEntity h9 her) cv_M_224 (ro_of he (by decide) (by decide)) rfl rfl (by decide) rfl rfl rfl (Nat.le_of_ble_eq_true rfl) d_M_look_2 (fun v m2 hv => ?_)
      obtain ⟨rfl, rfl⟩ := hv
      rw [if_pos hE]
      refine jj_if_ne h 12 d_M_look_5 (by decide) ⟨by decide, by decide⟩ (fun _ => ?_) (fun q5 => absurd q5 ((by decide)))
      refine jj_iconst h d_M_look_12 ?_
      refine jj_istore_n h d_M_look_13 (Nat.le_of_ble_eq_true rfl) rfl ?_
      refine jj_aload_n h d_M_look_14 rfl ⟨_, rfl⟩ ?_
      refine jj_iload_n h d_M_look_15 rfl ?_
      refine jj_iload_n h d_M_look_16 rfl ?_
      refine jj_if_ne h 34 d_M_look_17 (by decide) ⟨by decide, by decide⟩ (fun q17 => absurd (rfl) q17) (fun _ => ?_)
      refine jj_iload_n h d_M_look_20 rfl ?_
      refine jj_if_lt h 30 d_M_look_21 (by decide) ⟨by omega, by omega⟩ (fun q21 => ?_) (fun q21 => ?_)
      · refine jj_iconst h d_M_look_30 ?_
        refine jj_goto h 35 d_M_look_31 (by decide) ?_
        refine jj_callV h (cM_fails (Or.inl rfl) (Or.inr rfl)) cv_M_227 (ro_of he (by decide) (by decide)) rfl rfl (by decide) rfl rfl rfl (Nat.le_of_ble_eq_true rfl) d_M_look_35 (fun v m35 hv => ?_)
        obtain ⟨rfl, rfl⟩ := hv
        refine jj_if_eq h 45 d_M_look_38 (by decide) ⟨by decide, by decide⟩ (fun q38 => absurd q38 ((by decide))) (fun _ => ?_)
        refine jj_iconst h d_M_look_41 ?_
        refine jj_goto h 51 d_M_look_42 (by decide) ?_
        refine jj_iret h he d_M_look_51 ?_
        exact ⟨rfl, rfl⟩
      · refine jj_iload_n h d_M_look_24 rfl ?_
        refine jj_bipush h d_M_look_25 (by decide) ?_
        refine jj_icmp_le h 34 d_M_look_27 (by decide) ⟨by omega, by omega⟩ ⟨by omega, by omega⟩ (fun q27 => absurd q27 (by omega)) (fun _ => ?_)
        refine jj_iconst h d_M_look_30 ?_
        refine jj_goto h 35 d_M_look_31 (by decide) ?_
        refine jj_callV h (cM_fails (Or.inl rfl) (Or.inr rfl)) cv_M_227 (ro_of he (by decide) (by decide)) rfl rfl (by decide) rfl rfl rfl (Nat.le_of_ble_eq_true rfl) d_M_look_35 (fun v m35 hv => ?_)
        obtain ⟨rfl, rfl⟩ := hv
        refine jj_if_eq h 45 d_M_look_38 (by decide) ⟨by decide, by decide⟩ (fun q38 => absurd q38 ((by decide))) (fun _ => ?_)
        refine jj_iconst h d_M_look_41 ?_
        refine jj_goto h 51 d_M_look_42 (by decide) ?_
        refine jj_iret h he d_M_look_51 ?_
        exact ⟨rfl, rfl⟩
  · rw [if_neg hE] at he
    refine jj_aload_n h d_M_look_0 rfl ⟨_, rfl⟩ ?_
    refine jj_iload_n h d_M_look_1 rfl ?_
    refine jj_callV h (cM_isEntity h9 her) cv_M_224 (ro_of he (by decide) (by decide)) rfl rfl (by decide) rfl rfl rfl (Nat.le_of_ble_eq_true rfl) d_M_look_2 (fun v m2 hv => ?_)
    obtain ⟨rfl, rfl⟩ := hv
    rw [if_neg hE]
    refine jj_if_ne h 12 d_M_look_5 (by decide) ⟨by decide, by decide⟩ (fun q5 => absurd (rfl) q5) (fun _ => ?_)
    refine jj_iconst h d_M_look_8 ?_
    refine jj_goto h 13 d_M_look_9 (by decide) ?_
    refine jj_istore_n h d_M_look_13 (Nat.le_of_ble_eq_true rfl) rfl ?_
    refine jj_aload_n h d_M_look_14 rfl ⟨_, rfl⟩ ?_
    refine jj_iload_n h d_M_look_15 rfl ?_
    refine jj_iload_n h d_M_look_16 rfl ?_
    refine jj_if_ne h 34 d_M_look_17 (by decide) ⟨by decide, by decide⟩ (fun _ => ?_) (fun q17 => absurd q17 ((by decide)))
    refine jj_iconst h d_M_look_34 ?_
    refine jj_callV h (cM_fails (Or.inr rfl) (Or.inl rfl)) cv_M_227 (ro_of he (by decide) (by decide)) rfl rfl (by decide) rfl rfl rfl (Nat.le_of_ble_eq_true rfl) d_M_look_35 (fun v m35 hv => ?_)
    obtain ⟨rfl, rfl⟩ := hv
    refine jj_if_eq h 45 d_M_look_38 (by decide) ⟨by decide, by decide⟩ (fun q38 => absurd q38 ((by decide))) (fun _ => ?_)
    refine jj_iconst h d_M_look_41 ?_
    refine jj_goto h 51 d_M_look_42 (by decide) ?_
    refine jj_iret h he d_M_look_51 ?_
    exact ⟨rfl, rfl⟩
def okF (L : List mt_E) (e f : Int) : Prop := (0 ≤ e ∧ e < L.length) ∧ 0 ≤ f ∧ f < (gE L e).2.1.length
theorem cM_isField {G : mt_G} {l : Launch} {mem : mt_M} {L : List mt_E} {e f z : Int} (h9 : RM mem L) (he : r32 e) (hf : r32 f) (hz : (z = 1 ∧ okF L e f) ∨ (z = 0 ∧ ¬ okF L e f)) : CT G l y_M_isField c_M_isField 3 (some .boolean) 2 [vr G 182, vi e, vi f] mem (fun v m' => v = some (vi z) ∧ mem = m') := by
  obtain ⟨f1, f2⟩ := hf
  have hl := h9.2.2.1
  have her := he
  refine CT.intro (by decide) rfl (Nat.le_of_ble_eq_true rfl) (fun X h he => ?_)
  unfold okF at hz
  by_cases hE : 0 ≤ e ∧ e < L.length
  · have hR := (h9.at hE.1 hE.2).2.1
    have h8 := hR.2.1
    have h3 := hR.1
    refine jj_aload_n h d_M_isField_0 rfl ⟨_, rfl⟩ ?_
    refine jj_iload_n h d_M_isField_1 rfl ?_
    refine jj_callV h (cM_isEntity h9 her) cv_M_224 (ro_of he (by decide) (by decide)) rfl rfl (by decide) rfl rfl rfl (Nat.le_of_ble_eq_true rfl) d_M_isField_2 (fun v m2 hv => ?_)
    obtain ⟨rfl, rfl⟩ := hv
    rw [if_pos hE]
    refine jj_if_eq h 26 d_M_isField_5 (by decide) ⟨by decide, by decide⟩ (fun q5 => absurd q5 ((by decide))) (fun _ => ?_)
    refine jj_iload_n h d_M_isField_8 rfl ?_
    refine jj_if_lt h 26 d_M_isField_9 (by decide) ⟨by omega, by omega⟩ (fun q9 => ?_) (fun q9 => ?_)
    · refine jj_iconst h d_M_isField_26 ?_
      refine jj_zret h he (by omega) d_M_isField_27 ?_
      exact ⟨by congr 2; omega, rfl⟩
    · refine jj_iload_n h d_M_isField_12 rfl ?_
      refine jj_aload_n h d_M_isField_13 rfl ⟨_, rfl⟩ ?_
      refine jj_iload_n h d_M_isField_14 rfl ?_
      refine jj_iconst h d_M_isField_15 ?_
      refine jj_callV h (cM_of (by omega) (by omega)) cv_M_59 (ro_of he (by decide) (by decide)) rfl rfl (by decide) rfl rfl rfl (Nat.le_of_ble_eq_true rfl) d_M_isField_16 (fun v m16 hv => ?_)
      obtain ⟨rfl, rfl⟩ := hv
      rw [h3]
      refine jj_icmp_ge h 26 d_M_isField_19 (by decide) ⟨by omega, by omega⟩ ⟨by omega, by omega⟩ (fun q19 => ?_) (fun q19 => ?_)
      · refine jj_iconst h d_M_isField_26 ?_
        refine jj_zret h he (by omega) d_M_isField_27 ?_
        exact ⟨by congr 2; omega, rfl⟩
      · refine jj_iconst h d_M_isField_22 ?_
        refine jj_goto h 27 d_M_isField_23 (by decide) ?_
        refine jj_zret h he (by omega) d_M_isField_27 ?_
        exact ⟨by congr 2; omega, rfl⟩
  · refine jj_aload_n h d_M_isField_0 rfl ⟨_, rfl⟩ ?_
    refine jj_iload_n h d_M_isField_1 rfl ?_
    refine jj_callV h (cM_isEntity h9 her) cv_M_224 (ro_of he (by decide) (by decide)) rfl rfl (by decide) rfl rfl rfl (Nat.le_of_ble_eq_true rfl) d_M_isField_2 (fun v m2 hv => ?_)
    obtain ⟨rfl, rfl⟩ := hv
    rw [if_neg hE]
    refine jj_if_eq h 26 d_M_isField_5 (by decide) ⟨by decide, by decide⟩ (fun _ => ?_) (fun q5 => absurd (rfl) q5)
    refine jj_iconst h d_M_isField_26 ?_
    refine jj_zret h he (by omega) d_M_isField_27 ?_
    exact ⟨by congr 2; omega, rfl⟩
