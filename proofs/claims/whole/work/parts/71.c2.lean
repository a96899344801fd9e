/-! The class: bytes one by one, and lines of a row. -/
theorem cX_isBlank {G : mt_G} {l : Launch} {mem : mt_M} {c : Int} (hc : r32 c) : CT G l y_X_isBlank c_X_isBlank 1 (some .boolean) 1 [vi c] mem (fun v m' => v = some (vi (if bl_ c then 1 else 0)) ∧ mem = m') := by
  obtain ⟨hc1, hc2⟩ := hc
  refine CT.intro (by decide) rfl (Nat.le_of_ble_eq_true rfl) (fun X h he => ?_)
  refine jj_iload_n h d_X_isBlank_0 rfl ?_
  refine jj_bipush h d_X_isBlank_1 (by decide) ?_
  refine jj_icmp_eq h 12 d_X_isBlank_3 (by decide) ⟨by omega, by omega⟩ ⟨by omega, by omega⟩ (fun q3 => ?_) (fun q3 => ?_)
  · refine jj_iconst h d_X_isBlank_12 ?_
    refine jj_goto h 17 d_X_isBlank_13 (by decide) ?_
    refine jj_zret h he (by omega) d_X_isBlank_17 ?_
    exact ⟨by congr 2; simp only [bl_]; split <;> omega, rfl⟩
  · refine jj_iload_n h d_X_isBlank_6 rfl ?_
    refine jj_bipush h d_X_isBlank_7 (by decide) ?_
    refine jj_icmp_ne h 16 d_X_isBlank_9 (by decide) ⟨by omega, by omega⟩ ⟨by omega, by omega⟩ (fun q9 => ?_) (fun q9 => ?_)
    · refine jj_iconst h d_X_isBlank_16 ?_
      refine jj_zret h he (by omega) d_X_isBlank_17 ?_
      exact ⟨by congr 2; simp only [bl_]; split <;> omega, rfl⟩
    · refine jj_iconst h d_X_isBlank_12 ?_
      refine jj_goto h 17 d_X_isBlank_13 (by decide) ?_
      refine jj_zret h he (by omega) d_X_isBlank_17 ?_
      exact ⟨by congr 2; simp only [bl_]; split <;> omega, rfl⟩
theorem cX_isNameByte {G : mt_G} {l : Launch} {mem : mt_M} {c : Int} (hc : r32 c) : CT G l y_X_isNameByte c_X_isNameByte 1 (some .boolean) 1 [vi c] mem (fun v m' => v = some (vi (if 32 < c ∧ c < 127 ∧ c ≠ 58 then 1 else 0)) ∧ mem = m') := by
  obtain ⟨hc1, hc2⟩ := hc
  refine CT.intro (by decide) rfl (Nat.le_of_ble_eq_true rfl) (fun X h he => ?_)
  refine jj_iload_n h d_X_isNameByte_0 rfl ?_
  refine jj_bipush h d_X_isNameByte_1 (by decide) ?_
  refine jj_icmp_lt h 22 d_X_isNameByte_3 (by decide) ⟨by omega, by omega⟩ ⟨by omega, by omega⟩ (fun q3 => ?_) (fun q3 => ?_)
  · refine jj_iconst h d_X_isNameByte_22 ?_
    refine jj_zret h he (by omega) d_X_isNameByte_23 ?_
    exact ⟨by congr 2; split <;> omega, rfl⟩
  · refine jj_iload_n h d_X_isNameByte_6 rfl ?_
    refine jj_bipush h d_X_isNameByte_7 (by decide) ?_
    refine jj_icmp_gt h 22 d_X_isNameByte_9 (by decide) ⟨by omega, by omega⟩ ⟨by omega, by omega⟩ (fun q9 => ?_) (fun q9 => ?_)
    · refine jj_iconst h d_X_isNameByte_22 ?_
      refine jj_zret h he (by omega) d_X_isNameByte_23 ?_
      exact ⟨by congr 2; split <;> omega, rfl⟩
    · refine jj_iload_n h d_X_isNameByte_12 rfl ?_
      refine jj_bipush h d_X_isNameByte_13 (by decide) ?_
      refine jj_icmp_eq h 22 d_X_isNameByte_15 (by decide) ⟨by omega, by omega⟩ ⟨by omega, by omega⟩ (fun q15 => ?_) (fun q15 => ?_)
      · refine jj_iconst h d_X_isNameByte_22 ?_
        refine jj_zret h he (by omega) d_X_isNameByte_23 ?_
        exact ⟨by congr 2; split <;> omega, rfl⟩
      · refine jj_iconst h d_X_isNameByte_18 ?_
        refine jj_goto h 23 d_X_isNameByte_19 (by decide) ?_
        refine jj_zret h he (by omega) d_X_isNameByte_23 ?_
        exact ⟨by congr 2; split <;> omega, rfl⟩
theorem cX_small {G : mt_G} {l : Launch} {mem : mt_M} {c : Int} (hc : r32 c) : CT G l y_X_small c_X_small 1 (some .int) 1 [vi c] mem (fun v m' => v = some (vi (sm_ c)) ∧ mem = m') := by
  obtain ⟨hc1, hc2⟩ := hc
  refine CT.intro (by decide) rfl (Nat.le_of_ble_eq_true rfl) (fun X h he => ?_)
  refine jj_iload_n h d_X_small_0 rfl ?_
  refine jj_bipush h d_X_small_1 (by decide) ?_
  refine jj_icmp_lt h 19 d_X_small_3 (by decide) ⟨by omega, by omega⟩ ⟨by omega, by omega⟩ (fun q3 => ?_) (fun q3 => ?_)
  · refine jj_iload_n h d_X_small_19 rfl ?_
    refine jj_iret h he d_X_small_20 ?_
    exact ⟨by congr 2; simp only [sm_]; split <;> omega, rfl⟩
  · refine jj_iload_n h d_X_small_6 rfl ?_
    refine jj_bipush h d_X_small_7 (by decide) ?_
    refine jj_icmp_gt h 19 d_X_small_9 (by decide) ⟨by omega, by omega⟩ ⟨by omega, by omega⟩ (fun q9 => ?_) (fun q9 => ?_)
    · refine jj_iload_n h d_X_small_19 rfl ?_
      refine jj_iret h he d_X_small_20 ?_
      exact ⟨by congr 2; simp only [sm_]; split <;> omega, rfl⟩
    · refine jj_iload_n h d_X_small_12 rfl ?_
      refine jj_bipush h d_X_small_13 (by decide) ?_
      refine jj_iadd h d_X_small_15 ?_
      refine jj_goto h 20 d_X_small_16 (by decide) ?_
      refine jj_iret h he d_X_small_20 ?_
      exact ⟨by congr 2; simp only [sm_]; split <;> omega, rfl⟩
/-- a row of bytes that is sound -/
def bw_ (m : mt_M) (r : Nat) : Prop := (1 ≤ r ∧ r ≤ 8) ∧ 0 ≤ m r 1 ∧ m r 1 ≤ ln_ (r + 8) ∧ by_ (m (r + 8)) 0 (m r 1)
theorem cB_in {G : mt_G} {l : Launch} {mem : mt_M} {r : Nat} {i : Int} (hw : bw_ mem r) (h0 : 0 ≤ i) (h1 : i < mem r 1) : CT G l y_B_at c_B_at 2 (some .int) 1 [vr G r, vi i] mem (fun v m' => v = some (vi (mem (r + 8) i)) ∧ mem = m') := by
  have hb := ln_b hw.1
  have h2 := hw.2.2.1
  have := cB_at (G := G) (l := l) (i := i) hw.1 hw.2.1 hw.2.2.1 ⟨by omega, by omega⟩
  unfold bA_ at this
  rw [if_pos ⟨h0, h1⟩] at this
  exact this
theorem cB_lineEnd {G : mt_G} {l : Launch} {mem : mt_M} {r : Nat} {p e : Int} (hw : bw_ mem r) (h0 : 0 ≤ p) (h1 : p ≤ e) (h2 : e ≤ mem r 1) : CT G l y_B_lineEnd c_B_lineEnd 4 (some .int) 2 [vr G r, vi p, vi e] mem (fun v m' => v = some (vi (lineEnd_ (mem (r + 8)) p e)) ∧ mem = m') := by
  have hr := hw.1
  have hln := ln_b hw.1
  have hsz := hw.2.2.1
  refine CT.intro (by decide) rfl (Nat.le_of_ble_eq_true rfl) (fun X h he => ?_)
  have loop : ∀ (n : Nat) (q : Int), (e - q).toNat = n → p ≤ q → q ≤ e → lineEnd_ (mem (r + 8)) p e = lineEnd_ (mem (r + 8)) q e → JJ G X 0 0 mem 2 [some (vr G r), some (vi p), some (vi e), some (vi q)] [] := by
    intro n
    induction n with
    | zero =>
      intro q hn hp hq hq2
      refine jj_iload_n h d_B_lineEnd_2 rfl ?_
      refine jj_iload_n h d_B_lineEnd_3 rfl ?_
      refine jj_icmp_ge h 27 d_B_lineEnd_4 (by decide) ⟨by omega, by omega⟩ ⟨by omega, by omega⟩ (fun _ => ?_) (fun q4 => absurd (by omega) q4)
      refine jj_iload_n h d_B_lineEnd_27 rfl ?_
      refine jj_iret h he d_B_lineEnd_28 ?_
      exact ⟨by rw [hq2, lineEnd_out (by omega)], rfl⟩
    | succ n ih =>
      intro q hn hp hq hq2
      have hq3 := hw.2.2.2 q (by omega) (by omega)
      rw [lineEnd_in (p := q) (by omega)] at hq2
      refine jj_iload_n h d_B_lineEnd_2 rfl ?_
      refine jj_iload_n h d_B_lineEnd_3 rfl ?_
      refine jj_icmp_ge h 27 d_B_lineEnd_4 (by decide) ⟨by omega, by omega⟩ ⟨by omega, by omega⟩ (fun q4 => absurd q4 (by omega)) (fun _ => ?_)
      refine jj_aload_n h d_B_lineEnd_7 rfl ⟨_, rfl⟩ ?_
      refine jj_iload_n h d_B_lineEnd_8 rfl ?_
      refine jj_callV h (cB_in hw (by omega) (by omega)) cv_B_23 (ro_of he (by decide) (by decide)) rfl rfl (by unfold mt_N; omega) (ce_B (by omega)) rfl rfl (Nat.le_of_ble_eq_true rfl) d_B_lineEnd_9 (fun v m9 hv => ?_)
      obtain ⟨rfl, rfl⟩ := hv
      refine jj_bipush h d_B_lineEnd_12 (by decide) ?_
      refine jj_icmp_ne h 21 d_B_lineEnd_14 (by decide) ⟨by omega, by omega⟩ ⟨by omega, by omega⟩ (fun q14 => ?_) (fun q14 => ?_)
      · refine jj_iinc h d_B_lineEnd_21 rfl rfl ?_
        refine jj_goto h 2 d_B_lineEnd_24 (by decide) ?_
        exact ih (q + 1) (by omega) (by omega) (by omega) (by rw [hq2, if_neg (by assumption)])
      · refine jj_iload_n h d_B_lineEnd_17 rfl ?_
        refine jj_iconst h d_B_lineEnd_18 ?_
        refine jj_iadd h d_B_lineEnd_19 ?_
        refine jj_iret h he d_B_lineEnd_20 ?_
        exact ⟨by rw [hq2, if_pos (by assumption)], rfl⟩
  refine jj_iload_n h d_B_lineEnd_0 rfl ?_
  refine jj_istore_n h d_B_lineEnd_1 (Nat.le_of_ble_eq_true rfl) rfl ?_
  exact loop _ p rfl (by omega) h1 rfl
theorem cB_textEnd {G : mt_G} {l : Launch} {mem : mt_M} {r : Nat} {p e L : Int} (hw : bw_ mem r) (h0 : 0 ≤ p) (h1 : p ≤ e) (h2 : e ≤ mem r 1) (hL : lineEnd_ (mem (r + 8)) p e = L) : CT G l y_B_textEnd c_B_textEnd 4 (some .int) 2 [vr G r, vi p, vi L] mem (fun v m' => v = some (vi (textEnd_ (mem (r + 8)) p e)) ∧ mem = m') := by
  have hr := hw.1
  have hln := ln_b hw.1
  have hsz := hw.2.2.1
  have hb := lineEnd_b (f := mem (r + 8)) (e := e) _ p rfl h1
  refine CT.intro (by decide) rfl (Nat.le_of_ble_eq_true rfl) (fun X h he => ?_)
  unfold textEnd_ at he
  rw [hL] at hb he
  by_cases hl : L = p
  · refine jj_iload_n h d_B_textEnd_0 rfl ?_
    refine jj_iload_n h d_B_textEnd_1 rfl ?_
    refine jj_icmp_le h 17 d_B_textEnd_2 (by decide) ⟨by omega, by omega⟩ ⟨by omega, by omega⟩ (fun _ => ?_) (fun q2 => absurd (by omega) q2)
    refine jj_iload_n h d_B_textEnd_17 rfl ?_
    refine jj_iret h he d_B_textEnd_18 ?_
    exact ⟨by rw [if_pos (Or.inl hl)], rfl⟩
  have c1 := hw.2.2.2 (L - 1) (by omega) (by omega)
  by_cases h13 : p ≤ L - 2
  · have c2 := hw.2.2.2 (L - 2) (by omega) (by omega)
    refine jj_iload_n h d_B_textEnd_0 rfl ?_
    refine jj_iload_n h d_B_textEnd_1 rfl ?_
    refine jj_icmp_le h 17 d_B_textEnd_2 (by decide) ⟨by omega, by omega⟩ ⟨by omega, by omega⟩ (fun q2 => absurd q2 (by omega)) (fun _ => ?_)
    refine jj_aload_n h d_B_textEnd_5 rfl ⟨_, rfl⟩ ?_
    refine jj_iload_n h d_B_textEnd_6 rfl ?_
    refine jj_iconst h d_B_textEnd_7 ?_
    refine jj_isub h d_B_textEnd_8 ?_
    refine jj_callV h (cB_in hw (by omega) (by omega)) cv_B_23 (ro_of he (by decide) (by decide)) rfl rfl (by unfold mt_N; omega) (ce_B (by omega)) rfl rfl (Nat.le_of_ble_eq_true rfl) d_B_textEnd_9 (fun v m9 hv => ?_)
    obtain ⟨rfl, rfl⟩ := hv
    refine jj_bipush h d_B_textEnd_12 (by decide) ?_
    refine jj_icmp_eq h 19 d_B_textEnd_14 (by decide) ⟨by omega, by omega⟩ ⟨by omega, by omega⟩ (fun q14 => ?_) (fun q14 => ?_)
    · refine jj_iload_n h d_B_textEnd_19 rfl ?_
      refine jj_iconst h d_B_textEnd_20 ?_
      refine jj_isub h d_B_textEnd_21 ?_
      refine jj_iload_n h d_B_textEnd_22 rfl ?_
      refine jj_icmp_lt h 42 d_B_textEnd_23 (by decide) ⟨by omega, by omega⟩ ⟨by omega, by omega⟩ (fun q23 => absurd q23 (by omega)) (fun _ => ?_)
      refine jj_aload_n h d_B_textEnd_26 rfl ⟨_, rfl⟩ ?_
      refine jj_iload_n h d_B_textEnd_27 rfl ?_
      refine jj_iconst h d_B_textEnd_28 ?_
      refine jj_isub h d_B_textEnd_29 ?_
      refine jj_callV h (cB_in hw (by omega) (by omega)) cv_B_23 (ro_of he (by decide) (by decide)) rfl rfl (by unfold mt_N; omega) (ce_B (by omega)) rfl rfl (Nat.le_of_ble_eq_true rfl) d_B_textEnd_30 (fun v m30 hv => ?_)
      obtain ⟨rfl, rfl⟩ := hv
      refine jj_bipush h d_B_textEnd_33 (by decide) ?_
      refine jj_icmp_ne h 42 d_B_textEnd_35 (by decide) ⟨by omega, by omega⟩ ⟨by omega, by omega⟩ (fun q35 => ?_) (fun q35 => ?_)
      · refine jj_iconst h d_B_textEnd_42 ?_
        refine jj_istore_n h d_B_textEnd_43 (Nat.le_of_ble_eq_true rfl) rfl ?_
        refine jj_iload_n h d_B_textEnd_44 rfl ?_
        refine jj_if_eq h 54 d_B_textEnd_45 (by decide) ⟨by decide, by decide⟩ (fun _ => ?_) (fun q45 => absurd (rfl) q45)
        refine jj_iload_n h d_B_textEnd_54 rfl ?_
        refine jj_iconst h d_B_textEnd_55 ?_
        refine jj_isub h d_B_textEnd_56 ?_
        refine jj_iret h he d_B_textEnd_57 ?_
        exact ⟨by rw [if_neg (by omega), if_neg (by omega)], rfl⟩
      · refine jj_iconst h d_B_textEnd_38 ?_
        refine jj_goto h 43 d_B_textEnd_39 (by decide) ?_
        refine jj_istore_n h d_B_textEnd_43 (Nat.le_of_ble_eq_true rfl) rfl ?_
        refine jj_iload_n h d_B_textEnd_44 rfl ?_
        refine jj_if_eq h 54 d_B_textEnd_45 (by decide) ⟨by decide, by decide⟩ (fun q45 => absurd q45 ((by decide))) (fun _ => ?_)
        refine jj_iload_n h d_B_textEnd_48 rfl ?_
        refine jj_iconst h d_B_textEnd_49 ?_
        refine jj_isub h d_B_textEnd_50 ?_
        refine jj_goto h 57 d_B_textEnd_51 (by decide) ?_
        refine jj_iret h he d_B_textEnd_57 ?_
        exact ⟨by rw [if_neg (by omega), if_pos (by omega)], rfl⟩
    · refine jj_iload_n h d_B_textEnd_17 rfl ?_
      refine jj_iret h he d_B_textEnd_18 ?_
      exact ⟨by rw [if_pos (Or.inr (by assumption))], rfl⟩
  · refine jj_iload_n h d_B_textEnd_0 rfl ?_
    refine jj_iload_n h d_B_textEnd_1 rfl ?_
    refine jj_icmp_le h 17 d_B_textEnd_2 (by decide) ⟨by omega, by omega⟩ ⟨by omega, by omega⟩ (fun q2 => absurd q2 (by omega)) (fun _ => ?_)
    refine jj_aload_n h d_B_textEnd_5 rfl ⟨_, rfl⟩ ?_
    refine jj_iload_n h d_B_textEnd_6 rfl ?_
    refine jj_iconst h d_B_textEnd_7 ?_
    refine jj_isub h d_B_textEnd_8 ?_
    refine jj_callV h (cB_in hw (by omega) (by omega)) cv_B_23 (ro_of he (by decide) (by decide)) rfl rfl (by unfold mt_N; omega) (ce_B (by omega)) rfl rfl (Nat.le_of_ble_eq_true rfl) d_B_textEnd_9 (fun v m9 hv => ?_)
    obtain ⟨rfl, rfl⟩ := hv
    refine jj_bipush h d_B_textEnd_12 (by decide) ?_
    refine jj_icmp_eq h 19 d_B_textEnd_14 (by decide) ⟨by omega, by omega⟩ ⟨by omega, by omega⟩ (fun q14 => ?_) (fun q14 => ?_)
    · refine jj_iload_n h d_B_textEnd_19 rfl ?_
      refine jj_iconst h d_B_textEnd_20 ?_
      refine jj_isub h d_B_textEnd_21 ?_
      refine jj_iload_n h d_B_textEnd_22 rfl ?_
      refine jj_icmp_lt h 42 d_B_textEnd_23 (by decide) ⟨by omega, by omega⟩ ⟨by omega, by omega⟩ (fun _ => ?_) (fun q23 => absurd (by omega) q23)
      refine jj_iconst h d_B_textEnd_42 ?_
      refine jj_istore_n h d_B_textEnd_43 (Nat.le_of_ble_eq_true rfl) rfl ?_
      refine jj_iload_n h d_B_textEnd_44 rfl ?_
      refine jj_if_eq h 54 d_B_textEnd_45 (by decide) ⟨by decide, by decide⟩ (fun _ => ?_) (fun q45 => absurd (rfl) q45)
      refine jj_iload_n h d_B_textEnd_54 rfl ?_
      refine jj_iconst h d_B_textEnd_55 ?_
      refine jj_isub h d_B_textEnd_56 ?_
      refine jj_iret h he d_B_textEnd_57 ?_
      exact ⟨by rw [if_neg (by omega), if_neg (by omega)], rfl⟩
    · refine jj_iload_n h d_B_textEnd_17 rfl ?_
      refine jj_iret h he d_B_textEnd_18 ?_
      exact ⟨by rw [if_pos (Or.inr (by assumption))], rfl⟩
