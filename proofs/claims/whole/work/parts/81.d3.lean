/-! The class: letters, texts. -/
theorem at_ix : ∀ n : Nat, n < 128 → 33 ≤ n → n ≤ 126 → at_ (n : Int) = decide (ix_ (b8_ (n : Int)) (tx_ 1) 0 < 0) := by decide +kernel
theorem ltv_ix : ∀ n : Nat, n < 256 → ltv (n : Int) = ix_ (b8_ (n : Int)) (tx_ 9) 0 := by decide +kernel
theorem ix_b : ∀ n : Nat, n < 128 → -1 ≤ ix_ (b8_ (n : Int)) (tx_ 1) 0 ∧ ix_ (b8_ (n : Int)) (tx_ 1) 0 ≤ 100 := by decide +kernel
theorem cX_isAtomByte {G : mt_G} {l : Launch} {mem : mt_M} {c : Int} (hc : 0 ≤ c ∧ c ≤ 255) : CT G l y_X_isAtomByte c_X_isAtomByte 1 (some .boolean) 5 [vi c] mem (fun v m' => v = some (vi (if at_ c then 1 else 0)) ∧ mem = m') := by
  obtain ⟨h0, h1⟩ := hc
  refine CT.intro (by decide) rfl (Nat.le_of_ble_eq_true rfl) (fun X h he => ?_)
  have e2 := i2c_z (z := c) (by omega) (by omega)
  by_cases hr : 33 ≤ c ∧ c ≤ 126
  · have ha := at_ix c.toNat (by omega) (by omega) (by omega)
    have hb := ix_b c.toNat (by omega)
    rw [Int.toNat_of_nonneg h0] at ha hb
    generalize hI : ix_ (b8_ c) (tx_ 1) 0 = I at *
    rw [ha] at he
    refine jj_iload_n h d_X_isAtomByte_0 rfl ?_
    refine jj_bipush h d_X_isAtomByte_1 (by decide) ?_
    refine jj_icmp_lt h 26 d_X_isAtomByte_3 (by decide) ⟨by omega, by omega⟩ ⟨by omega, by omega⟩ (fun q3 => absurd q3 (by omega)) (fun _ => ?_)
    refine jj_iload_n h d_X_isAtomByte_6 rfl ?_
    refine jj_bipush h d_X_isAtomByte_7 (by decide) ?_
    refine jj_icmp_gt h 26 d_X_isAtomByte_9 (by decide) ⟨by omega, by omega⟩ ⟨by omega, by omega⟩ (fun q9 => absurd q9 (by omega)) (fun _ => ?_)
    refine jj_ldcS h 1 rfl d_X_isAtomByte_12 ?_
    refine jj_iload_n h d_X_isAtomByte_14 rfl ?_
    refine jj_i2c h d_X_isAtomByte_15 ?_
    rw [e2]
    refine jj_callK h (cQ_indexOf1 (i := 1) (by decide) (by decide +kernel) h0 h1) cv_X_188 (ro_of he (by first | decide | omega) (by decide)) rfl rfl (by first | assumption | decide) rfl rfl (Nat.le_of_ble_eq_true rfl) d_X_isAtomByte_16 (fun v m16 hv => ?_)
    obtain ⟨rfl, rfl⟩ := hv
    rw [hI]
    refine jj_if_ge h 26 d_X_isAtomByte_19 (by decide) ⟨by omega, by omega⟩ (fun q19 => ?_) (fun q19 => ?_)
    · refine jj_iconst h d_X_isAtomByte_26 ?_
      refine jj_zret h he (by omega) d_X_isAtomByte_27 ?_
      exact ⟨by rw [decide_eq_false (by omega)]; rfl, rfl⟩
    · refine jj_iconst h d_X_isAtomByte_22 ?_
      refine jj_goto h 27 d_X_isAtomByte_23 (by decide) ?_
      refine jj_zret h he (by omega) d_X_isAtomByte_27 ?_
      exact ⟨by rw [decide_eq_true (by omega)]; rfl, rfl⟩
  · have ha : at_ c = false := decide_eq_false (fun z => hr ⟨z.1, z.2.1⟩)
    rw [ha] at he
    refine jj_iload_n h d_X_isAtomByte_0 rfl ?_
    refine jj_bipush h d_X_isAtomByte_1 (by decide) ?_
    refine jj_icmp_lt h 26 d_X_isAtomByte_3 (by decide) ⟨by omega, by omega⟩ ⟨by omega, by omega⟩ (fun q3 => ?_) (fun q3 => ?_)
    · refine jj_iconst h d_X_isAtomByte_26 ?_
      refine jj_zret h he (by omega) d_X_isAtomByte_27 ?_
      exact ⟨rfl, rfl⟩
    · refine jj_iload_n h d_X_isAtomByte_6 rfl ?_
      refine jj_bipush h d_X_isAtomByte_7 (by decide) ?_
      refine jj_icmp_gt h 26 d_X_isAtomByte_9 (by decide) ⟨by omega, by omega⟩ ⟨by omega, by omega⟩ (fun q9 => ?_) (fun q9 => ?_)
      · refine jj_iconst h d_X_isAtomByte_26 ?_
        refine jj_zret h he (by omega) d_X_isAtomByte_27 ?_
        exact ⟨rfl, rfl⟩
      · exfalso; omega --done
theorem cX_base64Digit {G : mt_G} {l : Launch} {mem : mt_M} {c : Int} (hc : 0 ≤ c ∧ c ≤ 255) : CT G l y_X_base64Digit c_X_base64Digit 1 (some .int) 5 [vi c] mem (fun v m' => v = some (vi (ltv c)) ∧ mem = m') := by
  obtain ⟨h0, h1⟩ := hc
  refine CT.intro (by decide) rfl (Nat.le_of_ble_eq_true rfl) (fun X h he => ?_)
  have e2 := i2c_z (z := c) (by omega) (by omega)
  have ha := ltv_ix c.toNat (by omega)
  rw [Int.toNat_of_nonneg h0] at ha
  rw [ha] at he
  refine jj_iload_n h d_X_base64Digit_0 rfl ?_
  refine jj_if_ge h 8 d_X_base64Digit_1 (by decide) ⟨by omega, by omega⟩ (fun _ => ?_) (fun q1 => absurd (by omega) q1)
  refine jj_ldcS h 9 rfl d_X_base64Digit_8 ?_
  refine jj_iload_n h d_X_base64Digit_10 rfl ?_
  refine jj_i2c h d_X_base64Digit_11 ?_
  rw [e2]
  refine jj_callK h (cQ_indexOf1 (i := 9) (by decide) (by decide +kernel) h0 h1) cv_X_188 (ro_of he (by first | decide | omega) (by decide)) rfl rfl (by first | assumption | decide) rfl rfl (Nat.le_of_ble_eq_true rfl) d_X_base64Digit_12 (fun v m12 hv => ?_)
  obtain ⟨rfl, rfl⟩ := hv
  refine jj_iret h he d_X_base64Digit_15 ?_
  exact ⟨rfl, rfl⟩
theorem tx_drop {i : Nat} {k : Nat} (h : k < (tx_ i).length) : (tx_ i).drop k = (tx_ i).getD k 0 :: (tx_ i).drop (k + 1) := by
  rw [List.drop_eq_getElem_cons h, List.getD_eq_getElem?_getD, List.getElem?_eq_getElem h]; rfl
theorem cB_putText {G : mt_G} {l : Launch} {mem : mt_M} {r i : Nat} (hi : i < 23) (hr : 1 ≤ r ∧ r ≤ 8) (h0 : 0 ≤ mem r 1) (h1 : mem r 1 ≤ ln_ (r + 8)) : CT G l y_B_putText c_B_putText 3 none 5 [vr G r, vs G i] mem (fun v m' => v = none ∧ bL_ mem r (tx_ i) = m') := by
  have hm := tx_max i hi
  refine CT.intro (by decide) rfl (Nat.le_of_ble_eq_true rfl) (fun X h he => ?_)
  have loop : ∀ (n k : Nat) (out : List Int), (tx_ i).length - k = n → k ≤ (tx_ i).length → tx_ i = out ++ (tx_ i).drop k → JJ G X 0 0 (bL_ mem r out) 2 [some (vr G r), some (vs G i), some (vi k)] [] := by
    intro n
    induction n with
    | zero =>
      intro k out k1 k2 k3
      rw [List.drop_eq_nil_of_le (by omega), List.append_nil] at k3
      refine jj_iload_n h d_B_putText_2 rfl ?_
      refine jj_aload_n h d_B_putText_3 rfl ⟨_, rfl⟩ ?_
      refine jj_callK h (cQ_length hi) cv_B_31 (ro_of he (by first | decide | omega) (by decide)) rfl rfl (by first | assumption | decide) rfl rfl (Nat.le_of_ble_eq_true rfl) d_B_putText_4 (fun v m4 hv => ?_)
      obtain ⟨rfl, rfl⟩ := hv
      refine jj_icmp_ge h 25 d_B_putText_7 (by decide) ⟨by omega, by omega⟩ ⟨by omega, by omega⟩ (fun _ => ?_) (fun q7 => absurd (by omega) q7)
      refine jj_vret h he d_B_putText_25 ?_
      exact ⟨rfl, by rw [← k3]⟩
    | succ n ih =>
      intro k out k1 k2 k3
      rw [tx_drop (by omega)] at k3
      have sz := bL_size (r := r) out mem h0 h1
      refine jj_iload_n h d_B_putText_2 rfl ?_
      refine jj_aload_n h d_B_putText_3 rfl ⟨_, rfl⟩ ?_
      refine jj_callK h (cQ_length hi) cv_B_31 (ro_of he (by first | decide | omega) (by decide)) rfl rfl (by first | assumption | decide) rfl rfl (Nat.le_of_ble_eq_true rfl) d_B_putText_4 (fun v m4 hv => ?_)
      obtain ⟨rfl, rfl⟩ := hv
      refine jj_icmp_ge h 25 d_B_putText_7 (by decide) ⟨by omega, by omega⟩ ⟨by omega, by omega⟩ (fun q7 => absurd q7 (by omega)) (fun _ => ?_)
      refine jj_aload_n h d_B_putText_10 rfl ⟨_, rfl⟩ ?_
      refine jj_aload_n h d_B_putText_11 rfl ⟨_, rfl⟩ ?_
      refine jj_iload_n h d_B_putText_12 rfl ?_
      refine jj_callK h (cQ_charAt hi (by omega) (by omega)) cv_B_37 (ro_of he (by first | decide | omega) (by decide)) rfl rfl (by first | assumption | decide) rfl rfl (Nat.le_of_ble_eq_true rfl) d_B_putText_13 (fun v m13 hv => ?_)
      obtain ⟨rfl, rfl⟩ := hv
      rw [show ((k : Int)).toNat = k from rfl]
      refine jj_callV h (cB_put hr sz.1 sz.2) cv_B_27 (ro_of he (by first | decide | omega) (by decide)) rfl rfl (by unfold mt_N; omega) (ce_B (by omega)) rfl rfl (Nat.le_of_ble_eq_true rfl) d_B_putText_16 (fun v m16 hv => ?_)
      obtain ⟨rfl, rfl⟩ := hv
      refine jj_iinc h d_B_putText_19 rfl rfl ?_
      refine jj_goto h 2 d_B_putText_22 (by decide) ?_
      have := ih (k + 1) (out ++ [(tx_ i).getD k 0]) (by omega) (by omega) (by rw [List.append_assoc]; exact k3)
      rw [bL_snoc] at this
      exact this
  refine jj_iconst h d_B_putText_0 ?_
  refine jj_istore_n h d_B_putText_1 (Nat.le_of_ble_eq_true rfl) rfl ?_
  exact loop _ 0 [] rfl (Nat.zero_le _) rfl
theorem cB_spells {G : mt_G} {l : Launch} {mem : mt_M} {r i : Nat} {p e : Int} (hi : i < 23) (hw : bw_ mem r) (p0 : 0 ≤ p) (p1 : p ≤ e) (e1 : e ≤ mem r 1) : CT G l y_B_spells c_B_spells 5 (some .boolean) 5 [vr G r, vs G i, vi p, vi e] mem (fun v m' => v = some (vi (if wd_ (tx_ i) (slc (mem (r + 8)) p e) then 1 else 0)) ∧ mem = m') := by
  have hm := tx_max i hi
  have hr := hw.1
  have hln := ln_b hw.1
  have hsz := hw.2.2.1
  refine CT.intro (by decide) rfl (Nat.le_of_ble_eq_true rfl) (fun X h he => ?_)
  have hlen : ((slc (mem (r + 8)) p e).length : Int) = e - p := slc_lenI p1
  have hwd : wd_ (tx_ i) (slc (mem (r + 8)) p e) = decide ((slc (mem (r + 8)) p e).map sm_ = tx_ i) := rfl
  by_cases hn : e - p = (tx_ i).length
  · have loop : ∀ (n k : Nat), (tx_ i).length - k = n → k ≤ (tx_ i).length → ((slc (mem (r + 8)) p e).map sm_ = tx_ i ↔ (slc (mem (r + 8)) (p + k) e).map sm_ = (tx_ i).drop k) → JJ G X 0 0 mem 15 [some (vr G r), some (vs G i), some (vi p), some (vi e), some (vi k)] [] := by
      intro n
      induction n with
      | zero =>
        intro k k1 k2 k3
        rw [List.drop_eq_nil_of_le (by omega), slc_nil (f := mem (r + 8)) (p := p + k) (e := e) (by omega)] at k3
        refine jj_iload h d_B_spells_15 rfl ?_
        refine jj_aload_n h d_B_spells_17 rfl ⟨_, rfl⟩ ?_
        refine jj_callK h (cQ_length hi) cv_B_31 (ro_of he (by first | decide | omega) (by decide)) rfl rfl (by first | assumption | decide) rfl rfl (Nat.le_of_ble_eq_true rfl) d_B_spells_18 (fun v m18 hv => ?_)
        obtain ⟨rfl, rfl⟩ := hv
        refine jj_icmp_ge h 52 d_B_spells_21 (by decide) ⟨by omega, by omega⟩ ⟨by omega, by omega⟩ (fun _ => ?_) (fun q21 => absurd (by omega) q21)
        refine jj_iconst h d_B_spells_52 ?_
        refine jj_zret h he (by omega) d_B_spells_53 ?_
        exact ⟨by rw [hwd, decide_eq_true (k3.mpr rfl)]; rfl, rfl⟩
      | succ n ih =>
        intro k k1 k2 k3
        have hby := hw.2.2.2 (p + k) (by omega) (by omega)
        have hg : 0 ≤ (tx_ i).getD k 0 ∧ (tx_ i).getD k 0 ≤ 127 := tx_get hi (z := k) (by omega) (by omega)
        have hsm : 0 ≤ sm_ (mem (r + 8) (p + k)) ∧ sm_ (mem (r + 8) (p + k)) ≤ 287 := by unfold sm_; split <;> omega
        rw [tx_drop (by omega), slc_cons (f := mem (r + 8)) (p := p + k) (e := e) (by omega), List.map_cons, List.cons.injEq] at k3
        refine jj_iload h d_B_spells_15 rfl ?_
        refine jj_aload_n h d_B_spells_17 rfl ⟨_, rfl⟩ ?_
        refine jj_callK h (cQ_length hi) cv_B_31 (ro_of he (by first | decide | omega) (by decide)) rfl rfl (by first | assumption | decide) rfl rfl (Nat.le_of_ble_eq_true rfl) d_B_spells_18 (fun v m18 hv => ?_)
        obtain ⟨rfl, rfl⟩ := hv
        refine jj_icmp_ge h 52 d_B_spells_21 (by decide) ⟨by omega, by omega⟩ ⟨by omega, by omega⟩ (fun q21 => absurd q21 (by omega)) (fun _ => ?_)
        refine jj_aload_n h d_B_spells_24 rfl ⟨_, rfl⟩ ?_
        refine jj_iload_n h d_B_spells_25 rfl ?_
        refine jj_iload h d_B_spells_26 rfl ?_
        refine jj_iadd h d_B_spells_28 ?_
        refine jj_callV h (cB_in hw (by omega) (by omega)) cv_B_23 (ro_of he (by first | decide | omega) (by decide)) rfl rfl (by unfold mt_N; omega) (ce_B (by omega)) rfl rfl (Nat.le_of_ble_eq_true rfl) d_B_spells_29 (fun v m29 hv => ?_)
        obtain ⟨rfl, rfl⟩ := hv
        refine jj_callN h (cX_small ⟨by omega, by omega⟩) cv_B_41 (ro_of he (by first | decide | omega) (by decide)) rfl rfl rfl (Nat.le_of_ble_eq_true rfl) d_B_spells_32 (fun v m32 hv => ?_)
        obtain ⟨rfl, rfl⟩ := hv
        refine jj_aload_n h d_B_spells_35 rfl ⟨_, rfl⟩ ?_
        refine jj_iload h d_B_spells_36 rfl ?_
        refine jj_callK h (cQ_charAt hi (by omega) (by omega)) cv_B_37 (ro_of he (by first | decide | omega) (by decide)) rfl rfl (by first | assumption | decide) rfl rfl (Nat.le_of_ble_eq_true rfl) d_B_spells_38 (fun v m38 hv => ?_)
        obtain ⟨rfl, rfl⟩ := hv
        rw [show ((k : Int)).toNat = k from rfl]
        refine jj_icmp_eq h 46 d_B_spells_41 (by decide) ⟨by omega, by omega⟩ ⟨by omega, by omega⟩ (fun q41 => ?_) (fun q41 => ?_)
        · refine jj_iinc h d_B_spells_46 rfl rfl ?_
          refine jj_goto h 15 d_B_spells_49 (by decide) ?_
          refine ih (k + 1) (by omega) (by omega) ?_
          rw [show p + ((k + 1 : Nat) : Int) = p + k + 1 by omega]
          exact ⟨fun z => (k3.mp z).2, fun z => k3.mpr ⟨q41, z⟩⟩
        · refine jj_iconst h d_B_spells_44 ?_
          refine jj_zret h he (by omega) d_B_spells_45 ?_
          exact ⟨by rw [hwd, decide_eq_false (fun z => q41 (k3.mp z).1)]; rfl, rfl⟩
    refine jj_iload_n h d_B_spells_0 rfl ?_
    refine jj_iload_n h d_B_spells_1 rfl ?_
    refine jj_isub h d_B_spells_2 ?_
    refine jj_aload_n h d_B_spells_3 rfl ⟨_, rfl⟩ ?_
    refine jj_callK h (cQ_length hi) cv_B_31 (ro_of he (by first | decide | omega) (by decide)) rfl rfl (by first | assumption | decide) rfl rfl (Nat.le_of_ble_eq_true rfl) d_B_spells_4 (fun v m4 hv => ?_)
    obtain ⟨rfl, rfl⟩ := hv
    refine jj_icmp_eq h 12 d_B_spells_7 (by decide) ⟨by omega, by omega⟩ ⟨by omega, by omega⟩ (fun _ => ?_) (fun q7 => absurd (hn) q7)
    refine jj_iconst h d_B_spells_12 ?_
    refine jj_istore h d_B_spells_13 (Nat.le_of_ble_eq_true rfl) rfl ?_
    exact loop _ 0 rfl (Nat.zero_le _) (by rw [show p + ((0 : Nat) : Int) = p by omega]; exact Iff.rfl)
  · have hno : wd_ (tx_ i) (slc (mem (r + 8)) p e) = false := decide_eq_false (fun z => hn (by rw [← hlen, ← z, List.length_map]))
    rw [hno] at he
    refine jj_iload_n h d_B_spells_0 rfl ?_
    refine jj_iload_n h d_B_spells_1 rfl ?_
    refine jj_isub h d_B_spells_2 ?_
    refine jj_aload_n h d_B_spells_3 rfl ⟨_, rfl⟩ ?_
    refine jj_callK h (cQ_length hi) cv_B_31 (ro_of he (by first | decide | omega) (by decide)) rfl rfl (by first | assumption | decide) rfl rfl (Nat.le_of_ble_eq_true rfl) d_B_spells_4 (fun v m4 hv => ?_)
    obtain ⟨rfl, rfl⟩ := hv
    refine jj_icmp_eq h 12 d_B_spells_7 (by decide) ⟨by omega, by omega⟩ ⟨by omega, by omega⟩ (fun q7 => absurd q7 (hn)) (fun _ => ?_)
    refine jj_iconst h d_B_spells_10 ?_
    refine jj_zret h he (by omega) d_B_spells_11 ?_
    exact ⟨rfl, rfl⟩
theorem cB_has {G : mt_G} {l : Launch} {mem : mt_M} {r i : Nat} {p e : Int} (hi : i < 23) (hw : bw_ mem r) (p0 : 0 ≤ p) (p1 : p ≤ e) (e1 : e ≤ mem r 1) : CT G l y_B_has c_B_has 5 (some .boolean) 5 [vr G r, vs G i, vi p, vi e] mem (fun v m' => v = some (vi (if (strp (tx_ i) (slc (mem (r + 8)) p e)).isSome then 1 else 0)) ∧ mem = m') := by
  have hm := tx_max i hi
  have hr := hw.1
  have hln := ln_b hw.1
  have hsz := hw.2.2.1
  refine CT.intro (by decide) rfl (Nat.le_of_ble_eq_true rfl) (fun X h he => ?_)
  generalize hS : (strp (tx_ i) (slc (mem (r + 8)) p e)).isSome = S at *
  by_cases hn : (tx_ i).length ≤ e - p
  · have loop : ∀ (n k : Nat), (tx_ i).length - k = n → k ≤ (tx_ i).length → S = (strp ((tx_ i).drop k) (slc (mem (r + 8)) (p + k) e)).isSome → JJ G X 0 0 mem 15 [some (vr G r), some (vs G i), some (vi p), some (vi e), some (vi k)] [] := by
      intro n
      induction n with
      | zero =>
        intro k k1 k2 k3
        rw [List.drop_eq_nil_of_le (by omega)] at k3
        have k3 : S = true := k3
        subst k3
        refine jj_iload h d_B_has_15 rfl ?_
        refine jj_aload_n h d_B_has_17 rfl ⟨_, rfl⟩ ?_
        refine jj_callK h (cQ_length hi) cv_B_31 (ro_of he (by first | decide | omega) (by decide)) rfl rfl (by first | assumption | decide) rfl rfl (Nat.le_of_ble_eq_true rfl) d_B_has_18 (fun v m18 hv => ?_)
        obtain ⟨rfl, rfl⟩ := hv
        refine jj_icmp_ge h 49 d_B_has_21 (by decide) ⟨by omega, by omega⟩ ⟨by omega, by omega⟩ (fun _ => ?_) (fun q21 => absurd (by omega) q21)
        refine jj_iconst h d_B_has_49 ?_
        refine jj_zret h he (by omega) d_B_has_50 ?_
        exact ⟨rfl, rfl⟩
      | succ n ih =>
        intro k k1 k2 k3
        have hby := hw.2.2.2 (p + k) (by omega) (by omega)
        have hg : 0 ≤ (tx_ i).getD k 0 ∧ (tx_ i).getD k 0 ≤ 127 := tx_get hi (z := k) (by omega) (by omega)
        rw [tx_drop (by omega), slc_cons (by omega), strp] at k3
        refine jj_iload h d_B_has_15 rfl ?_
        refine jj_aload_n h d_B_has_17 rfl ⟨_, rfl⟩ ?_
        refine jj_callK h (cQ_length hi) cv_B_31 (ro_of he (by first | decide | omega) (by decide)) rfl rfl (by first | assumption | decide) rfl rfl (Nat.le_of_ble_eq_true rfl) d_B_has_18 (fun v m18 hv => ?_)
        obtain ⟨rfl, rfl⟩ := hv
        refine jj_icmp_ge h 49 d_B_has_21 (by decide) ⟨by omega, by omega⟩ ⟨by omega, by omega⟩ (fun q21 => absurd q21 (by omega)) (fun _ => ?_)
        refine jj_aload_n h d_B_has_24 rfl ⟨_, rfl⟩ ?_
        refine jj_iload_n h d_B_has_25 rfl ?_
        refine jj_iload h d_B_has_26 rfl ?_
        refine jj_iadd h d_B_has_28 ?_
        refine jj_callV h (cB_in hw (by omega) (by omega)) cv_B_23 (ro_of he (by first | decide | omega) (by decide)) rfl rfl (by unfold mt_N; omega) (ce_B (by omega)) rfl rfl (Nat.le_of_ble_eq_true rfl) d_B_has_29 (fun v m29 hv => ?_)
        obtain ⟨rfl, rfl⟩ := hv
        refine jj_aload_n h d_B_has_32 rfl ⟨_, rfl⟩ ?_
        refine jj_iload h d_B_has_33 rfl ?_
        refine jj_callK h (cQ_charAt hi (by omega) (by omega)) cv_B_37 (ro_of he (by first | decide | omega) (by decide)) rfl rfl (by first | assumption | decide) rfl rfl (Nat.le_of_ble_eq_true rfl) d_B_has_35 (fun v m35 hv => ?_)
        obtain ⟨rfl, rfl⟩ := hv
        rw [show ((k : Int)).toNat = k from rfl]
        refine jj_icmp_eq h 43 d_B_has_38 (by decide) ⟨by omega, by omega⟩ ⟨by omega, by omega⟩ (fun q38 => ?_) (fun q38 => ?_)
        · rw [if_pos q38] at k3
          refine jj_iinc h d_B_has_43 rfl rfl ?_
          refine jj_goto h 15 d_B_has_46 (by decide) ?_
          exact ih (k + 1) (by omega) (by omega) (by rw [show p + ((k + 1 : Nat) : Int) = p + k + 1 by omega]; exact k3)
        · rw [if_neg q38] at k3
          have k3 : S = false := k3
          subst k3
          refine jj_iconst h d_B_has_41 ?_
          refine jj_zret h he (by omega) d_B_has_42 ?_
          exact ⟨rfl, rfl⟩
    refine jj_iload_n h d_B_has_0 rfl ?_
    refine jj_iload_n h d_B_has_1 rfl ?_
    refine jj_isub h d_B_has_2 ?_
    refine jj_aload_n h d_B_has_3 rfl ⟨_, rfl⟩ ?_
    refine jj_callK h (cQ_length hi) cv_B_31 (ro_of he (by first | decide | omega) (by decide)) rfl rfl (by first | assumption | decide) rfl rfl (Nat.le_of_ble_eq_true rfl) d_B_has_4 (fun v m4 hv => ?_)
    obtain ⟨rfl, rfl⟩ := hv
    refine jj_icmp_ge h 12 d_B_has_7 (by decide) ⟨by omega, by omega⟩ ⟨by omega, by omega⟩ (fun _ => ?_) (fun q7 => absurd (by omega) q7)
    refine jj_iconst h d_B_has_12 ?_
    refine jj_istore h d_B_has_13 (Nat.le_of_ble_eq_true rfl) rfl ?_
    exact loop _ 0 rfl (Nat.zero_le _) (by rw [show p + ((0 : Nat) : Int) = p by omega]; exact hS.symm)
  · rw [strp_short _ _ (by rw [slc_len]; omega)] at hS
    have hS : S = false := hS.symm
    subst hS
    refine jj_iload_n h d_B_has_0 rfl ?_
    refine jj_iload_n h d_B_has_1 rfl ?_
    refine jj_isub h d_B_has_2 ?_
    refine jj_aload_n h d_B_has_3 rfl ⟨_, rfl⟩ ?_
    refine jj_callK h (cQ_length hi) cv_B_31 (ro_of he (by first | decide | omega) (by decide)) rfl rfl (by first | assumption | decide) rfl rfl (Nat.le_of_ble_eq_true rfl) d_B_has_4 (fun v m4 hv => ?_)
    obtain ⟨rfl, rfl⟩ := hv
    refine jj_icmp_ge h 12 d_B_has_7 (by decide) ⟨by omega, by omega⟩ ⟨by omega, by omega⟩ (fun q7 => absurd q7 (by omega)) (fun _ => ?_)
    refine jj_iconst h d_B_has_10 ?_
    refine jj_zret h he (by omega) d_B_has_11 ?_
    exact ⟨rfl, rfl⟩
