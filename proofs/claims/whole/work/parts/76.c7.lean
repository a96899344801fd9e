/-! The class: a digit of sixteen; the scanner begins, takes a sign. -/
theorem cX_hexDigit {G : mt_G} {l : Launch} {mem : mt_M} {c : Int} (hc : r32 c) : CT G l y_X_hexDigit c_X_hexDigit 2 (some .int) 2 [vi c] mem (fun v m' => v = some (vi (hx_ c)) ∧ mem = m') := by
  have hcr := hc
  obtain ⟨hc1, hc2⟩ := hc
  refine CT.intro (by decide) rfl (Nat.le_of_ble_eq_true rfl) (fun X h he => ?_)
  have tail : ¬ (48 ≤ c ∧ c ≤ 57) → JJ G X 0 0 mem 17 [some (vi c), none] [] := by
    intro hn
    have hs : sm_ c = if 65 ≤ c ∧ c ≤ 90 then c + 32 else c := rfl
    have hx : hx_ c = if 97 ≤ sm_ c ∧ sm_ c ≤ 102 then sm_ c - 87 else -1 := by
      unfold hx_; rw [if_neg hn, hs]
      by_cases q : 65 ≤ c ∧ c ≤ 90
      · rw [if_pos q]; split <;> split <;> omega
      · rw [if_neg q, if_neg (by omega)]
    have hsb : -2147483648 ≤ sm_ c ∧ sm_ c ≤ 2147483647 := by rw [hs]; split <;> omega
    generalize hS : sm_ c = S at *
    refine jj_iload_n h d_X_hexDigit_17 rfl ?_
    refine jj_callS h (cX_small hcr) cv_X_193 (ro_of he (by decide) (by decide)) rfl rfl rfl (Nat.le_of_ble_eq_true rfl) d_X_hexDigit_18 (fun v m18 hv => ?_)
    obtain ⟨rfl, rfl⟩ := hv
    rw [hS]
    refine jj_istore_n h d_X_hexDigit_21 (Nat.le_of_ble_eq_true rfl) rfl ?_
    refine jj_iload_n h d_X_hexDigit_22 rfl ?_
    refine jj_bipush h d_X_hexDigit_23 (by decide) ?_
    refine jj_icmp_lt h 44 d_X_hexDigit_25 (by decide) ⟨by omega, by omega⟩ ⟨by omega, by omega⟩ (fun q25 => ?_) (fun q25 => ?_)
    · refine jj_iconst h d_X_hexDigit_44 ?_
      refine jj_iret h he d_X_hexDigit_45 ?_
      exact ⟨by rw [hx, if_neg (by omega)], rfl⟩
    · refine jj_iload_n h d_X_hexDigit_28 rfl ?_
      refine jj_bipush h d_X_hexDigit_29 (by decide) ?_
      refine jj_icmp_gt h 44 d_X_hexDigit_31 (by decide) ⟨by omega, by omega⟩ ⟨by omega, by omega⟩ (fun q31 => ?_) (fun q31 => ?_)
      · refine jj_iconst h d_X_hexDigit_44 ?_
        refine jj_iret h he d_X_hexDigit_45 ?_
        exact ⟨by rw [hx, if_neg (by omega)], rfl⟩
      · refine jj_iload_n h d_X_hexDigit_34 rfl ?_
        refine jj_bipush h d_X_hexDigit_35 (by decide) ?_
        refine jj_isub h d_X_hexDigit_37 ?_
        refine jj_bipush h d_X_hexDigit_38 (by decide) ?_
        refine jj_iadd h d_X_hexDigit_40 ?_
        refine jj_goto h 45 d_X_hexDigit_41 (by decide) ?_
        refine jj_iret h he d_X_hexDigit_45 ?_
        exact ⟨by rw [hx, if_pos (by omega)]; congr 2; omega, rfl⟩
  refine jj_iload_n h d_X_hexDigit_0 rfl ?_
  refine jj_bipush h d_X_hexDigit_1 (by decide) ?_
  refine jj_icmp_lt h 17 d_X_hexDigit_3 (by decide) ⟨by omega, by omega⟩ ⟨by omega, by omega⟩ (fun q3 => ?_) (fun q3 => ?_)
  · exact tail (by omega)
  · refine jj_iload_n h d_X_hexDigit_6 rfl ?_
    refine jj_bipush h d_X_hexDigit_7 (by decide) ?_
    refine jj_icmp_gt h 17 d_X_hexDigit_9 (by decide) ⟨by omega, by omega⟩ ⟨by omega, by omega⟩ (fun q9 => ?_) (fun q9 => ?_)
    · exact tail (by omega)
    · refine jj_iload_n h d_X_hexDigit_12 rfl ?_
      refine jj_bipush h d_X_hexDigit_13 (by decide) ?_
      refine jj_isub h d_X_hexDigit_15 ?_
      refine jj_iret h he d_X_hexDigit_16 ?_
      exact ⟨by unfold hx_; rw [if_pos (by omega)], rfl⟩
theorem cS_start {G : mt_G} {l : Launch} {mem : mt_M} {f : Nat} (hf : 54 ≤ f ∧ f ≤ 181) : CT G l y_S_start c_S_start 2 none 1 [vr G 18, vr G f] mem (fun v m' => v = none ∧ st_ (st_ mem 18 2 (mem f 2)) 18 3 (mem f 2 + mem f 3) = m') := by
  refine CT.intro (by decide) rfl (Nat.le_of_ble_eq_true rfl) (fun X h he => ?_)
  have hs : st_ mem 18 2 (mem f 2) f = mem f := st_row (by omega)
  refine jj_aload_n h d_S_start_0 rfl ⟨_, rfl⟩ ?_
  refine jj_aload_n h d_S_start_1 rfl ⟨_, rfl⟩ ?_
  refine jj_g_F_valueBegin h (by omega) fl_S_23 d_S_start_2 ?_
  try simp only [hs]
  refine jj_p_S_place h  fl_S_29 d_S_start_5 ?_
  refine jj_aload_n h d_S_start_8 rfl ⟨_, rfl⟩ ?_
  refine jj_aload_n h d_S_start_9 rfl ⟨_, rfl⟩ ?_
  refine jj_g_F_valueBegin h (by omega) fl_S_23 d_S_start_10 ?_
  try simp only [hs]
  refine jj_aload_n h d_S_start_13 rfl ⟨_, rfl⟩ ?_
  refine jj_g_F_valueSize h (by omega) fl_S_32 d_S_start_14 ?_
  try simp only [hs]
  refine jj_iadd h d_S_start_17 ?_
  refine jj_p_S_end h  fl_S_35 d_S_start_18 ?_
  refine jj_vret h he d_S_start_21 ?_
  exact ⟨rfl, rfl⟩
theorem cS_take {G : mt_G} {l : Launch} {mem : mt_M} {c a b : Int} (hc : r32 c) (hw : bw_ mem 4) (ha : mem 18 2 = a) (hb : mem 18 3 = b) (a0 : 0 ≤ a) (a1 : a ≤ b) (b1 : b ≤ mem 4 1) : CT G l y_S_take c_S_take 2 (some .boolean) 2 [vr G 18, vi c] mem (fun v m' => (a < b ∧ mem 12 a = c → v = some (vi 1) ∧ st_ mem 18 2 (a + 1) = m') ∧ (¬ (a < b ∧ mem 12 a = c) → v = some (vi 0) ∧ mem = m')) := by
  obtain ⟨c1, c2⟩ := hc
  have hsz := hw.2.2.1
  have hl9 : ln_ (4 + 8) = 320 := rfl
  refine CT.intro (by decide) rfl (Nat.le_of_ble_eq_true rfl) (fun X h he => ?_)
  by_cases k : a < b
  · have hby : 0 ≤ mem 12 a ∧ mem 12 a ≤ 255 := hw.2.2.2 a a0 (by omega)
    refine jj_aload_n h d_S_take_0 rfl ⟨_, rfl⟩ ?_
    refine jj_g_S_place h  fl_S_29 d_S_take_1 ?_
    try simp only [ha, hb]
    refine jj_aload_n h d_S_take_4 rfl ⟨_, rfl⟩ ?_
    refine jj_g_S_end h  fl_S_35 d_S_take_5 ?_
    try simp only [ha, hb]
    refine jj_icmp_ge h 26 d_S_take_8 (by decide) ⟨by omega, by omega⟩ ⟨by omega, by omega⟩ (fun q8 => absurd q8 (by omega)) (fun _ => ?_)
    refine jj_aload_n h d_S_take_11 rfl ⟨_, rfl⟩ ?_
    refine jj_g_S_values h  fl_S_9 d_S_take_12 ?_
    try simp only [ha, hb]
    refine jj_aload_n h d_S_take_15 rfl ⟨_, rfl⟩ ?_
    refine jj_g_S_place h  fl_S_29 d_S_take_16 ?_
    try simp only [ha, hb]
    refine jj_callV h (cB_in hw a0 (by omega)) cv_S_38 (ro_of he (by decide) (by decide)) rfl rfl (by unfold mt_N; omega) (ce_B (by omega)) rfl rfl (Nat.le_of_ble_eq_true rfl) d_S_take_19 (fun v m19 hv => ?_)
    obtain ⟨rfl, rfl⟩ := hv
    show JJ G X 0 0 mem _ _ (vi (mem 12 a) :: _)
    refine jj_iload_n h d_S_take_22 rfl ?_
    refine jj_icmp_eq h 28 d_S_take_23 (by decide) ⟨by omega, by omega⟩ ⟨by omega, by omega⟩ (fun q23 => ?_) (fun q23 => ?_)
    · refine jj_aload_n h d_S_take_28 rfl ⟨_, rfl⟩ ?_
      refine jj_dup h d_S_take_29 rfl ?_
      refine jj_g_S_place h  fl_S_29 d_S_take_30 ?_
      try simp only [ha, hb]
      refine jj_iconst h d_S_take_33 ?_
      refine jj_iadd h d_S_take_34 ?_
      refine jj_p_S_place h  fl_S_29 d_S_take_35 ?_
      refine jj_iconst h d_S_take_38 ?_
      refine jj_zret h he (by omega) d_S_take_39 ?_
      exact ⟨fun _ => ⟨rfl, rfl⟩, fun z => by omega⟩
    · refine jj_iconst h d_S_take_26 ?_
      refine jj_zret h he (by omega) d_S_take_27 ?_
      exact ⟨fun z => by omega, fun _ => ⟨rfl, rfl⟩⟩
  · refine jj_aload_n h d_S_take_0 rfl ⟨_, rfl⟩ ?_
    refine jj_g_S_place h  fl_S_29 d_S_take_1 ?_
    try simp only [ha, hb]
    refine jj_aload_n h d_S_take_4 rfl ⟨_, rfl⟩ ?_
    refine jj_g_S_end h  fl_S_35 d_S_take_5 ?_
    try simp only [ha, hb]
    refine jj_icmp_ge h 26 d_S_take_8 (by decide) ⟨by omega, by omega⟩ ⟨by omega, by omega⟩ (fun _ => ?_) (fun q8 => absurd (by omega) q8)
    refine jj_iconst h d_S_take_26 ?_
    refine jj_zret h he (by omega) d_S_take_27 ?_
    exact ⟨fun z => by omega, fun _ => ⟨rfl, rfl⟩⟩
