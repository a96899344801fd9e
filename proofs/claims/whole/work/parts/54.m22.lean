/-! The reference: length, letter, content, boundary, feed. -/
def gF (L : List mt_E) (e f : Int) : List Int × List Int := (gE L e).2.1.getD f.toNat ([], [])
theorem RM.fld {mem : mt_M} {L : List mt_E} (h : RM mem L) {e f : Int} (ho : okF L e f) : fn1 mem e f (gF L e f).1 ∧ fv1 mem e f (gF L e f).2 ∧ f < 8 := by
  obtain ⟨⟨h0, h1⟩, h2, h3⟩ := ho
  have hR := (h.at h0 h1).2.1
  have hl : f.toNat < (gE L e).2.1.length := by omega
  have := hR.2.2 f.toNat (gF L e f) (by unfold gF; rw [List.getElem?_eq_getElem hl, List.getD_eq_getElem?_getD, List.getElem?_eq_getElem hl]; rfl)
  rw [Int.toNat_of_nonneg h2] at this
  exact ⟨this.1, this.2, by have := hR.2.1; omega⟩
/-- name (0) or value (1) -/
def nv_ (q : List Int × List Int) (w : Int) : List Int := if w = 0 then q.1 else q.2
theorem RM.nv {mem : mt_M} {L : List mt_E} (h : RM mem L) {e f w : Int} (ho : okF L e f) (hw : w = 0 ∨ w = 1) : f < 8 ∧ 0 ≤ mem 186 (4 * (8 * e + f) + 2 * w) ∧ mem 186 (4 * (8 * e + f) + (1 + 2 * w)) = (nv_ (gF L e f) w).length ∧ mem 186 (4 * (8 * e + f) + 2 * w) + (nv_ (gF L e f) w).length ≤ 1400 ∧ slc (mem 187) (mem 186 (4 * (8 * e + f) + 2 * w)) (mem 186 (4 * (8 * e + f) + 2 * w) + (nv_ (gF L e f) w).length) = nv_ (gF L e f) w := by
  obtain ⟨⟨a1, a2, a3, a4⟩, ⟨b1, b2, b3, b4⟩, h8⟩ := h.fld ho
  have t1 := h.2.2.2.2.1
  refine ⟨h8, ?_⟩
  rcases hw with rfl | rfl
  · have e1 : mem 186 (4 * (8 * e + f) + 1) = (gF L e f).1.length := by rw [← a4]; unfold fN_; rw [slc_len]; omega
    have e2 : nv_ (gF L e f) 0 = (gF L e f).1 := rfl
    rw [e2, show 4 * (8 * e + f) + 2 * 0 = 4 * (8 * e + f) by omega, show 4 * (8 * e + f) + (1 + 2 * 0) = 4 * (8 * e + f) + 1 by omega]
    refine ⟨a1, e1, by omega, ?_⟩
    rw [← e1]; exact a4
  · have e1 : mem 186 (4 * (8 * e + f) + 3) = (gF L e f).2.length := by rw [← b4]; unfold fV_; rw [slc_len]; omega
    have e2 : nv_ (gF L e f) 1 = (gF L e f).2 := rfl
    rw [e2, show 4 * (8 * e + f) + 2 * 1 = 4 * (8 * e + f) + 2 by omega, show 4 * (8 * e + f) + (1 + 2 * 1) = 4 * (8 * e + f) + 3 by omega]
    refine ⟨b1, e1, by omega, ?_⟩
    rw [← e1]; exact b4
theorem RM.th {mem : mt_M} {L : List mt_E} (h : RM mem L) (t : Int) : RM (st_ mem 182 0 t) L := by
  refine ⟨h.1.mov ⟨by rw [st_ne (by decide)]; exact Int.le_refl _, fun _ _ => by rw [st_row (by decide)]⟩ (fun _ _ _ => by rw [st_row (by decide)]) (fun _ _ _ => by rw [st_row (by decide)]), by rw [st_ne (by decide)]; exact h.2.1, h.2.2.1, by rw [st_ne (by decide)]; exact h.2.2.2.1, by rw [st_ne (by decide)]; exact h.2.2.2.2.1, by rw [st_row (by decide), st_ne (by decide)]; exact h.2.2.2.2.2⟩
theorem cM_length {G : mt_G} {l : Launch} {mem : mt_M} {L : List mt_E} {e f w : Int} (h9 : RM mem L) (he : r32 e) (hf : r32 f) (hw : r32 w) : CT G l y_M_length c_M_length 5 (some .int) 3 [vr G 182, vi e, vi f, vi w] mem (fun v m' => (¬ okF L e f → v = some (vi 0) ∧ st_ mem 182 0 1 = m') ∧ (okF L e f → w ≠ 0 → w ≠ 1 → v = some (vi 0) ∧ st_ mem 182 0 2 = m') ∧ (okF L e f → (w = 0 ∨ w = 1) → v = some (vi (nv_ (gF L e f) w).length) ∧ st_ mem 182 0 0 = m')) := by
  obtain ⟨w1, w2⟩ := hw
  have her := he
  have hl := h9.2.2.1
  refine CT.intro (by decide) rfl (Nat.le_of_ble_eq_true rfl) (fun X h he => ?_)
  by_cases ho : okF L e f
  · have hnv := fun hw => h9.nv (w := w) ho hw
    have ho0 := ho.1
    have ho1 := ho.2
    refine jj_aload_n h d_M_length_0 rfl ⟨_, rfl⟩ ?_
    refine jj_iload_n h d_M_length_1 rfl ?_
    refine jj_iload_n h d_M_length_2 rfl ?_
    refine jj_callV h (cM_isField (z := 1) h9 her hf (Or.inl ⟨rfl, ho⟩)) cv_M_231 (ro_of he (by decide) (by decide)) rfl rfl (by decide) rfl rfl rfl (Nat.le_of_ble_eq_true rfl) d_M_length_3 (fun v m3 hv => ?_)
    obtain ⟨rfl, rfl⟩ := hv
    refine jj_if_ne h 13 d_M_length_6 (by decide) ⟨by decide, by decide⟩ (fun _ => ?_) (fun q6 => absurd q6 ((by decide)))
    refine jj_iconst h d_M_length_13 ?_
    refine jj_istore h d_M_length_14 (Nat.le_of_ble_eq_true rfl) rfl ?_
    refine jj_aload_n h d_M_length_16 rfl ⟨_, rfl⟩ ?_
    refine jj_iload h d_M_length_17 rfl ?_
    refine jj_iload h d_M_length_19 rfl ?_
    refine jj_if_ne h 37 d_M_length_21 (by decide) ⟨by decide, by decide⟩ (fun q21 => absurd (rfl) q21) (fun _ => ?_)
    refine jj_iload_n h d_M_length_24 rfl ?_
    refine jj_if_eq h 37 d_M_length_25 (by decide) ⟨by omega, by omega⟩ (fun q25 => ?_) (fun q25 => ?_)
    · refine jj_iconst h d_M_length_37 ?_
      refine jj_callV h (cM_fails (Or.inl rfl) (Or.inl rfl)) cv_M_227 (ro_of he (by decide) (by decide)) rfl rfl (by decide) rfl rfl rfl (Nat.le_of_ble_eq_true rfl) d_M_length_38 (fun v m38 hv => ?_)
      obtain ⟨rfl, rfl⟩ := hv
      refine jj_if_eq h 48 d_M_length_41 (by decide) ⟨by decide, by decide⟩ (fun _ => ?_) (fun q41 => absurd (rfl) q41)
      refine jj_aload_n h d_M_length_48 rfl ⟨_, rfl⟩ ?_
      refine jj_iload_n h d_M_length_49 rfl ?_
      refine jj_iload_n h d_M_length_50 rfl ?_
      refine jj_iconst h d_M_length_51 ?_
      refine jj_iconst h d_M_length_52 ?_
      refine jj_iload_n h d_M_length_53 rfl ?_
      refine jj_imul h d_M_length_54 ?_
      refine jj_iadd h d_M_length_55 ?_
      refine jj_callV h (cM_fieldOf (by have := hnv (by omega); omega) (by have := hnv (by omega); omega)) cv_M_115 (ro_of he (by decide) (by decide)) rfl rfl (by decide) rfl rfl rfl (Nat.le_of_ble_eq_true rfl) d_M_length_56 (fun v m56 hv => ?_)
      obtain ⟨rfl, rfl⟩ := hv
      rw [st_row (by decide), (hnv (by omega)).2.2.1]
      refine jj_iret h he d_M_length_59 ?_
      exact ⟨fun z => absurd ho z, fun _ z1 z2 => by omega, fun _ _ => ⟨rfl, rfl⟩⟩
    · refine jj_iload_n h d_M_length_28 rfl ?_
      refine jj_iconst h d_M_length_29 ?_
      refine jj_icmp_eq h 37 d_M_length_30 (by decide) ⟨by omega, by omega⟩ ⟨by omega, by omega⟩ (fun q30 => ?_) (fun q30 => ?_)
      · refine jj_iconst h d_M_length_37 ?_
        refine jj_callV h (cM_fails (Or.inl rfl) (Or.inl rfl)) cv_M_227 (ro_of he (by decide) (by decide)) rfl rfl (by decide) rfl rfl rfl (Nat.le_of_ble_eq_true rfl) d_M_length_38 (fun v m38 hv => ?_)
        obtain ⟨rfl, rfl⟩ := hv
        refine jj_if_eq h 48 d_M_length_41 (by decide) ⟨by decide, by decide⟩ (fun _ => ?_) (fun q41 => absurd (rfl) q41)
        refine jj_aload_n h d_M_length_48 rfl ⟨_, rfl⟩ ?_
        refine jj_iload_n h d_M_length_49 rfl ?_
        refine jj_iload_n h d_M_length_50 rfl ?_
        refine jj_iconst h d_M_length_51 ?_
        refine jj_iconst h d_M_length_52 ?_
        refine jj_iload_n h d_M_length_53 rfl ?_
        refine jj_imul h d_M_length_54 ?_
        refine jj_iadd h d_M_length_55 ?_
        refine jj_callV h (cM_fieldOf (by have := hnv (by omega); omega) (by have := hnv (by omega); omega)) cv_M_115 (ro_of he (by decide) (by decide)) rfl rfl (by decide) rfl rfl rfl (Nat.le_of_ble_eq_true rfl) d_M_length_56 (fun v m56 hv => ?_)
        obtain ⟨rfl, rfl⟩ := hv
        rw [st_row (by decide), (hnv (by omega)).2.2.1]
        refine jj_iret h he d_M_length_59 ?_
        exact ⟨fun z => absurd ho z, fun _ z1 z2 => by omega, fun _ _ => ⟨rfl, rfl⟩⟩
      · refine jj_iconst h d_M_length_33 ?_
        refine jj_goto h 38 d_M_length_34 (by decide) ?_
        refine jj_callV h (cM_fails (Or.inl rfl) (Or.inr rfl)) cv_M_227 (ro_of he (by decide) (by decide)) rfl rfl (by decide) rfl rfl rfl (Nat.le_of_ble_eq_true rfl) d_M_length_38 (fun v m38 hv => ?_)
        obtain ⟨rfl, rfl⟩ := hv
        refine jj_if_eq h 48 d_M_length_41 (by decide) ⟨by decide, by decide⟩ (fun q41 => absurd q41 ((by decide))) (fun _ => ?_)
        refine jj_iconst h d_M_length_44 ?_
        refine jj_goto h 59 d_M_length_45 (by decide) ?_
        refine jj_iret h he d_M_length_59 ?_
        exact ⟨fun z => absurd ho z, fun _ _ _ => ⟨rfl, rfl⟩, fun _ z => by omega⟩
  · refine jj_aload_n h d_M_length_0 rfl ⟨_, rfl⟩ ?_
    refine jj_iload_n h d_M_length_1 rfl ?_
    refine jj_iload_n h d_M_length_2 rfl ?_
    refine jj_callV h (cM_isField (z := 0) h9 her hf (Or.inr ⟨rfl, ho⟩)) cv_M_231 (ro_of he (by decide) (by decide)) rfl rfl (by decide) rfl rfl rfl (Nat.le_of_ble_eq_true rfl) d_M_length_3 (fun v m3 hv => ?_)
    obtain ⟨rfl, rfl⟩ := hv
    refine jj_if_ne h 13 d_M_length_6 (by decide) ⟨by decide, by decide⟩ (fun q6 => absurd (rfl) q6) (fun _ => ?_)
    refine jj_iconst h d_M_length_9 ?_
    refine jj_goto h 14 d_M_length_10 (by decide) ?_
    refine jj_istore h d_M_length_14 (Nat.le_of_ble_eq_true rfl) rfl ?_
    refine jj_aload_n h d_M_length_16 rfl ⟨_, rfl⟩ ?_
    refine jj_iload h d_M_length_17 rfl ?_
    refine jj_iload h d_M_length_19 rfl ?_
    refine jj_if_ne h 37 d_M_length_21 (by decide) ⟨by decide, by decide⟩ (fun _ => ?_) (fun q21 => absurd q21 ((by decide)))
    refine jj_iconst h d_M_length_37 ?_
    refine jj_callV h (cM_fails (Or.inr rfl) (Or.inl rfl)) cv_M_227 (ro_of he (by decide) (by decide)) rfl rfl (by decide) rfl rfl rfl (Nat.le_of_ble_eq_true rfl) d_M_length_38 (fun v m38 hv => ?_)
    obtain ⟨rfl, rfl⟩ := hv
    refine jj_if_eq h 48 d_M_length_41 (by decide) ⟨by decide, by decide⟩ (fun q41 => absurd q41 ((by decide))) (fun _ => ?_)
    refine jj_iconst h d_M_length_44 ?_
    refine jj_goto h 59 d_M_length_45 (by decide) ?_
    refine jj_iret h he d_M_length_59 ?_
    exact ⟨fun _ => ⟨rfl, rfl⟩, fun z => absurd z ho, fun z => absurd z ho⟩
theorem cM_letter {G : mt_G} {l : Launch} {mem : mt_M} {L : List mt_E} {e f w i : Int} (h9 : RM mem L) (he : r32 e) (hf : r32 f) (hw : r32 w) (hi : r32 i) : CT G l y_M_letter c_M_letter 6 (some .int) 3 [vr G 182, vi e, vi f, vi w, vi i] mem (fun v m' => (¬ okF L e f → v = some (vi 0) ∧ st_ mem 182 0 1 = m') ∧ (okF L e f → w ≠ 0 → w ≠ 1 → v = some (vi 0) ∧ st_ mem 182 0 2 = m') ∧ (okF L e f → (w = 0 ∨ w = 1) → (0 ≤ i ∧ i < (nv_ (gF L e f) w).length → v = some (vi ((nv_ (gF L e f) w).getD i.toNat 0)) ∧ st_ mem 182 0 0 = m') ∧ (¬ (0 ≤ i ∧ i < (nv_ (gF L e f) w).length) → v = some (vi 0) ∧ st_ mem 182 0 1 = m'))) := by
  obtain ⟨w1, w2⟩ := hw
  obtain ⟨i1, i2⟩ := hi
  have her := he
  have hl := h9.2.2.1
  refine CT.intro (by decide) rfl (Nat.le_of_ble_eq_true rfl) (fun X h he => ?_)
  by_cases ho : okF L e f
  · have ho0 := ho.1
    have ho1 := ho.2
    by_cases hw : w = 0 ∨ w = 1
    · obtain ⟨n1, n2, n3, n4, n5⟩ := h9.nv (w := w) ho hw
      generalize hQ : nv_ (gF L e f) w = Q at *
      have fin : ∀ m, m = st_ mem 182 0 0 → JJ G X 0 0 m 46 [some (vr G 182), some (vi e), some (vi f), some (vi w), some (vi i), some (vi 0)] [] := by
        intro m hm
        have hF : m 186 = mem 186 := by rw [hm, st_row (by decide)]
        have hX : m 187 = mem 187 := by rw [hm, st_row (by decide)]
        refine jj_aload_n h d_M_letter_46 rfl ⟨_, rfl⟩ ?_
        refine jj_iload h d_M_letter_47 rfl ?_
        refine jj_if_lt h 68 d_M_letter_49 (by decide) ⟨by omega, by omega⟩ (fun q49 => ?_) (fun q49 => ?_)
        · refine jj_iconst h d_M_letter_68 ?_
          refine jj_goto h 73 d_M_letter_69 (by decide) ?_
          refine jj_iconst h d_M_letter_73 ?_
          refine jj_callV h (cM_fails (Or.inr rfl) (Or.inl rfl)) cv_M_227 (ro_of he (by decide) (by decide)) rfl rfl (by decide) rfl rfl rfl (Nat.le_of_ble_eq_true rfl) d_M_letter_74 (fun v m74 hv => ?_)
          obtain ⟨rfl, rfl⟩ := hv
          refine jj_if_eq h 82 d_M_letter_77 (by decide) ⟨by decide, by decide⟩ (fun q77 => absurd q77 ((by decide))) (fun _ => ?_)
          refine jj_iconst h d_M_letter_80 ?_
          refine jj_iret h he d_M_letter_81 ?_
          exact ⟨fun z => absurd ho z, fun _ z1 z2 => by omega, fun _ _ => ⟨fun z => by omega, fun _ => ⟨rfl, by rw [hm, st_st]; rfl⟩⟩⟩
        · refine jj_iload h d_M_letter_52 rfl ?_
          refine jj_aload_n h d_M_letter_54 rfl ⟨_, rfl⟩ ?_
          refine jj_iload_n h d_M_letter_55 rfl ?_
          refine jj_iload_n h d_M_letter_56 rfl ?_
          refine jj_iconst h d_M_letter_57 ?_
          refine jj_iconst h d_M_letter_58 ?_
          refine jj_iload_n h d_M_letter_59 rfl ?_
          refine jj_imul h d_M_letter_60 ?_
          refine jj_iadd h d_M_letter_61 ?_
          refine jj_callV h (cM_fieldOf (by omega) (by omega)) cv_M_115 (ro_of he (by decide) (by decide)) rfl rfl (by decide) rfl rfl rfl (Nat.le_of_ble_eq_true rfl) d_M_letter_62 (fun v m62 hv => ?_)
          obtain ⟨rfl, rfl⟩ := hv
          rw [hF, n3]
          refine jj_icmp_lt h 72 d_M_letter_65 (by decide) ⟨by omega, by omega⟩ ⟨by omega, by omega⟩ (fun q65 => ?_) (fun q65 => ?_)
          · refine jj_iconst h d_M_letter_72 ?_
            refine jj_iconst h d_M_letter_73 ?_
            refine jj_callV h (cM_fails (Or.inl rfl) (Or.inl rfl)) cv_M_227 (ro_of he (by decide) (by decide)) rfl rfl (by decide) rfl rfl rfl (Nat.le_of_ble_eq_true rfl) d_M_letter_74 (fun v m74 hv => ?_)
            obtain ⟨rfl, rfl⟩ := hv
            refine jj_if_eq h 82 d_M_letter_77 (by decide) ⟨by decide, by decide⟩ (fun _ => ?_) (fun q77 => absurd (rfl) q77)
            refine jj_aload_n h d_M_letter_82 rfl ⟨_, rfl⟩ ?_
            refine jj_g_M_text h  fl_M_22 d_M_letter_83 ?_
            refine jj_aload_n h d_M_letter_86 rfl ⟨_, rfl⟩ ?_
            refine jj_iload_n h d_M_letter_87 rfl ?_
            refine jj_iload_n h d_M_letter_88 rfl ?_
            refine jj_iconst h d_M_letter_89 ?_
            refine jj_iload_n h d_M_letter_90 rfl ?_
            refine jj_imul h d_M_letter_91 ?_
            refine jj_callV h (cM_fieldOf (by omega) (by omega)) cv_M_115 (ro_of he (by decide) (by decide)) rfl rfl (by decide) rfl rfl rfl (Nat.le_of_ble_eq_true rfl) d_M_letter_92 (fun v m92 hv => ?_)
            obtain ⟨rfl, rfl⟩ := hv
            rw [st_row (by decide), hF]
            refine jj_iload h d_M_letter_95 rfl ?_
            refine jj_iadd h d_M_letter_97 ?_
            refine jj_iaload (N := 1400) h (by decide) rfl (by decide) (by omega) (by omega) d_M_letter_98 ?_
            rw [st_row (by decide), hX]
            refine jj_iret h he d_M_letter_99 ?_
            refine ⟨fun z => absurd ho z, fun _ z1 z2 => by omega, fun _ _ => ⟨fun z => ⟨?_, by rw [hm, st_st]; rfl⟩, fun z => by omega⟩⟩
            have := slc_get (f := mem 187) (p := mem 186 (4 * (8 * e + f) + 2 * w)) (e := mem 186 (4 * (8 * e + f) + 2 * w) + Q.length) (i := i) (by omega) (by omega)
            rw [n5] at this
            rw [List.getD_eq_getElem?_getD, this]; rfl
          · refine jj_iconst h d_M_letter_68 ?_
            refine jj_goto h 73 d_M_letter_69 (by decide) ?_
            refine jj_iconst h d_M_letter_73 ?_
            refine jj_callV h (cM_fails (Or.inr rfl) (Or.inl rfl)) cv_M_227 (ro_of he (by decide) (by decide)) rfl rfl (by decide) rfl rfl rfl (Nat.le_of_ble_eq_true rfl) d_M_letter_74 (fun v m74 hv => ?_)
            obtain ⟨rfl, rfl⟩ := hv
            refine jj_if_eq h 82 d_M_letter_77 (by decide) ⟨by decide, by decide⟩ (fun q77 => absurd q77 ((by decide))) (fun _ => ?_)
            refine jj_iconst h d_M_letter_80 ?_
            refine jj_iret h he d_M_letter_81 ?_
            exact ⟨fun z => absurd ho z, fun _ z1 z2 => by omega, fun _ _ => ⟨fun z => by omega, fun _ => ⟨rfl, by rw [hm, st_st]; rfl⟩⟩⟩
      refine jj_aload_n h d_M_letter_0 rfl ⟨_, rfl⟩ ?_
      refine jj_iload_n h d_M_letter_1 rfl ?_
      refine jj_iload_n h d_M_letter_2 rfl ?_
      refine jj_callV h (cM_isField (z := 1) h9 her hf (Or.inl ⟨rfl, ho⟩)) cv_M_231 (ro_of he (by decide) (by decide)) rfl rfl (by decide) rfl rfl rfl (Nat.le_of_ble_eq_true rfl) d_M_letter_3 (fun v m3 hv => ?_)
      obtain ⟨rfl, rfl⟩ := hv
      refine jj_if_ne h 13 d_M_letter_6 (by decide) ⟨by decide, by decide⟩ (fun _ => ?_) (fun q6 => absurd q6 ((by decide)))
      refine jj_iconst h d_M_letter_13 ?_
      refine jj_istore h d_M_letter_14 (Nat.le_of_ble_eq_true rfl) rfl ?_
      refine jj_aload_n h d_M_letter_16 rfl ⟨_, rfl⟩ ?_
      refine jj_iload h d_M_letter_17 rfl ?_
      refine jj_iload h d_M_letter_19 rfl ?_
      refine jj_if_ne h 37 d_M_letter_21 (by decide) ⟨by decide, by decide⟩ (fun q21 => absurd (rfl) q21) (fun _ => ?_)
      refine jj_iload_n h d_M_letter_24 rfl ?_
      refine jj_if_eq h 37 d_M_letter_25 (by decide) ⟨by omega, by omega⟩ (fun q25 => ?_) (fun q25 => ?_)
      · refine jj_iconst h d_M_letter_37 ?_
        refine jj_callV h (cM_fails (Or.inl rfl) (Or.inl rfl)) cv_M_227 (ro_of he (by decide) (by decide)) rfl rfl (by decide) rfl rfl rfl (Nat.le_of_ble_eq_true rfl) d_M_letter_38 (fun v m38 hv => ?_)
        obtain ⟨rfl, rfl⟩ := hv
        refine jj_if_eq h 46 d_M_letter_41 (by decide) ⟨by decide, by decide⟩ (fun _ => ?_) (fun q41 => absurd (rfl) q41)
        exact fin _ rfl
      · refine jj_iload_n h d_M_letter_28 rfl ?_
        refine jj_iconst h d_M_letter_29 ?_
        refine jj_icmp_eq h 37 d_M_letter_30 (by decide) ⟨by omega, by omega⟩ ⟨by omega, by omega⟩ (fun _ => ?_) (fun q30 => absurd (by omega) q30)
        refine jj_iconst h d_M_letter_37 ?_
        refine jj_callV h (cM_fails (Or.inl rfl) (Or.inl rfl)) cv_M_227 (ro_of he (by decide) (by decide)) rfl rfl (by decide) rfl rfl rfl (Nat.le_of_ble_eq_true rfl) d_M_letter_38 (fun v m38 hv => ?_)
        obtain ⟨rfl, rfl⟩ := hv
        refine jj_if_eq h 46 d_M_letter_41 (by decide) ⟨by decide, by decide⟩ (fun _ => ?_) (fun q41 => absurd (rfl) q41)
        exact fin _ rfl
    · refine jj_aload_n h d_M_letter_0 rfl ⟨_, rfl⟩ ?_
      refine jj_iload_n h d_M_letter_1 rfl ?_
      refine jj_iload_n h d_M_letter_2 rfl ?_
      refine jj_callV h (cM_isField (z := 1) h9 her hf (Or.inl ⟨rfl, ho⟩)) cv_M_231 (ro_of he (by decide) (by decide)) rfl rfl (by decide) rfl rfl rfl (Nat.le_of_ble_eq_true rfl) d_M_letter_3 (fun v m3 hv => ?_)
      obtain ⟨rfl, rfl⟩ := hv
      refine jj_if_ne h 13 d_M_letter_6 (by decide) ⟨by decide, by decide⟩ (fun _ => ?_) (fun q6 => absurd q6 ((by decide)))
      refine jj_iconst h d_M_letter_13 ?_
      refine jj_istore h d_M_letter_14 (Nat.le_of_ble_eq_true rfl) rfl ?_
      refine jj_aload_n h d_M_letter_16 rfl ⟨_, rfl⟩ ?_
      refine jj_iload h d_M_letter_17 rfl ?_
      refine jj_iload h d_M_letter_19 rfl ?_
      refine jj_if_ne h 37 d_M_letter_21 (by decide) ⟨by decide, by decide⟩ (fun q21 => absurd (rfl) q21) (fun _ => ?_)
      refine jj_iload_n h d_M_letter_24 rfl ?_
      refine jj_if_eq h 37 d_M_letter_25 (by decide) ⟨by omega, by omega⟩ (fun q25 => absurd q25 (by omega)) (fun _ => ?_)
      refine jj_iload_n h d_M_letter_28 rfl ?_
      refine jj_iconst h d_M_letter_29 ?_
      refine jj_icmp_eq h 37 d_M_letter_30 (by decide) ⟨by omega, by omega⟩ ⟨by omega, by omega⟩ (fun q30 => absurd q30 (by omega)) (fun _ => ?_)
      refine jj_iconst h d_M_letter_33 ?_
      refine jj_goto h 38 d_M_letter_34 (by decide) ?_
      refine jj_callV h (cM_fails (Or.inl rfl) (Or.inr rfl)) cv_M_227 (ro_of he (by decide) (by decide)) rfl rfl (by decide) rfl rfl rfl (Nat.le_of_ble_eq_true rfl) d_M_letter_38 (fun v m38 hv => ?_)
      obtain ⟨rfl, rfl⟩ := hv
      refine jj_if_eq h 46 d_M_letter_41 (by decide) ⟨by decide, by decide⟩ (fun q41 => absurd q41 ((by decide))) (fun _ => ?_)
      refine jj_iconst h d_M_letter_44 ?_
      refine jj_iret h he d_M_letter_45 ?_
      exact ⟨fun z => absurd ho z, fun _ _ _ => ⟨rfl, rfl⟩, fun _ z => absurd z hw⟩
  · refine jj_aload_n h d_M_letter_0 rfl ⟨_, rfl⟩ ?_
    refine jj_iload_n h d_M_letter_1 rfl ?_
    refine jj_iload_n h d_M_letter_2 rfl ?_
    refine jj_callV h (cM_isField (z := 0) h9 her hf (Or.inr ⟨rfl, ho⟩)) cv_M_231 (ro_of he (by decide) (by decide)) rfl rfl (by decide) rfl rfl rfl (Nat.le_of_ble_eq_true rfl) d_M_letter_3 (fun v m3 hv => ?_)
    obtain ⟨rfl, rfl⟩ := hv
    refine jj_if_ne h 13 d_M_letter_6 (by decide) ⟨by decide, by decide⟩ (fun q6 => absurd (rfl) q6) (fun _ => ?_)
    refine jj_iconst h d_M_letter_9 ?_
    refine jj_goto h 14 d_M_letter_10 (by decide) ?_
    refine jj_istore h d_M_letter_14 (Nat.le_of_ble_eq_true rfl) rfl ?_
    refine jj_aload_n h d_M_letter_16 rfl ⟨_, rfl⟩ ?_
    refine jj_iload h d_M_letter_17 rfl ?_
    refine jj_iload h d_M_letter_19 rfl ?_
    refine jj_if_ne h 37 d_M_letter_21 (by decide) ⟨by decide, by decide⟩ (fun _ => ?_) (fun q21 => absurd q21 ((by decide)))
    refine jj_iconst h d_M_letter_37 ?_
    refine jj_callV h (cM_fails (Or.inr rfl) (Or.inl rfl)) cv_M_227 (ro_of he (by decide) (by decide)) rfl rfl (by decide) rfl rfl rfl (Nat.le_of_ble_eq_true rfl) d_M_letter_38 (fun v m38 hv => ?_)
    obtain ⟨rfl, rfl⟩ := hv
    refine jj_if_eq h 46 d_M_letter_41 (by decide) ⟨by decide, by decide⟩ (fun q41 => absurd q41 ((by decide))) (fun _ => ?_)
    refine jj_iconst h d_M_letter_44 ?_
    refine jj_iret h he d_M_letter_45 ?_
    exact ⟨fun _ => ⟨rfl, rfl⟩, fun z => absurd z ho, fun z => absurd z ho⟩
