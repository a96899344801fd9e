/-! The class writes quoted-printable. -/
theorem dg_tx : ∀ n : Nat, n < 16 → (tx_ 20).getD n 0 = dg_ (n : Int) := by decide +kernel
theorem tl_tx : ∀ n : Nat, n < 64 → (tx_ 19).getD n 0 = tl_ (n : Int) := by decide +kernel
theorem dg_z {z : Int} (h0 : 0 ≤ z) (h1 : z < 16) : (tx_ 20).getD z.toNat 0 = dg_ z := by
  have := dg_tx z.toNat (by omega)
  rw [Int.toNat_of_nonneg h0] at this
  exact this
theorem tl_z {z : Int} (h0 : 0 ≤ z) (h1 : z < 64) : (tx_ 19).getD z.toNat 0 = tl_ z := by
  have := tl_tx z.toNat (by omega)
  rw [Int.toNat_of_nonneg h0] at this
  exact this
theorem cP_printEscaped {G : mt_G} {l : Launch} {mem : mt_M} {c : Int} (h8 : 0 ≤ mem 8 1 ∧ mem 8 1 ≤ 700) (c0 : 0 ≤ c) (c1 : c ≤ 255) : CT G l y_P_printEscaped c_P_printEscaped 2 none 5 [vr G 20, vi c] mem (fun v m' => v = none ∧ bL_ mem 8 [61, dg_ (c / 16), dg_ (c % 16)] = m') := by
  have hhi : iand_ (ishr_ c 4) 15 = c / 16 := by
    rw [ishr_k 4 (P := 16) (by decide) (by decide) (by omega) (by omega), iand_k 4 (P := 16) (by decide) (by decide) (by omega) (by omega)]
    omega
  have hlo : iand_ c 15 = c % 16 := by
    rw [iand_k 4 (P := 16) (by decide) (by decide) (by omega) (by omega)]
    rfl
  have hl8 : ln_ (8 + 8) = 700 := rfl
  have hd1 := dg_z (z := c / 16) (by omega) (by omega)
  have hd2 := dg_z (z := c % 16) (by omega) (by omega)
  have hlen : (tx_ 20).length = 16 := by decide +kernel
  have s1 := bp_size (m := mem) (r := 8) (c := 61) h8.1 h8.2
  have s2 := bp_size (m := bp_ mem 8 61) (r := 8) (c := dg_ (c / 16)) s1.1 s1.2
  refine CT.intro (by decide) rfl (Nat.le_of_ble_eq_true rfl) (fun X h he => ?_)
  refine jj_aload_n h d_P_printEscaped_0 rfl ⟨_, rfl⟩ ?_
  refine jj_g_P_draft h  fl_P_20 d_P_printEscaped_1 ?_
  refine jj_bipush h d_P_printEscaped_4 (by decide) ?_
  refine jj_callV h (cB_put ⟨by decide, by decide⟩ h8.1 h8.2) cv_P_146 (ro_of he (by first | decide | omega) (by decide)) rfl rfl (by unfold mt_N; omega) (ce_B (by omega)) rfl rfl (Nat.le_of_ble_eq_true rfl) d_P_printEscaped_6 (fun v m6 hv => ?_)
  obtain ⟨rfl, rfl⟩ := hv
  refine jj_aload_n h d_P_printEscaped_9 rfl ⟨_, rfl⟩ ?_
  refine jj_g_P_draft h  fl_P_20 d_P_printEscaped_10 ?_
  refine jj_ldcS h 20 rfl d_P_printEscaped_13 ?_
  refine jj_iload_n h d_P_printEscaped_15 rfl ?_
  refine jj_iconst h d_P_printEscaped_16 ?_
  refine jj_ishr h d_P_printEscaped_17 ?_
  refine jj_bipush h d_P_printEscaped_18 (by decide) ?_
  refine jj_iand h d_P_printEscaped_20 ?_
  rw [hhi]
  refine jj_callK h (cQ_charAt (i := 20) (by decide) (by omega) (by omega)) cv_P_140 (ro_of he (by first | decide | omega) (by decide)) rfl rfl (by first | assumption | decide) rfl rfl (Nat.le_of_ble_eq_true rfl) d_P_printEscaped_21 (fun v m21 hv => ?_)
  obtain ⟨rfl, rfl⟩ := hv
  rw [hd1]
  refine jj_callV h (cB_put ⟨by decide, by decide⟩ s1.1 s1.2) cv_P_146 (ro_of he (by first | decide | omega) (by decide)) rfl rfl (by unfold mt_N; omega) (ce_B (by omega)) rfl rfl (Nat.le_of_ble_eq_true rfl) d_P_printEscaped_24 (fun v m24 hv => ?_)
  obtain ⟨rfl, rfl⟩ := hv
  refine jj_aload_n h d_P_printEscaped_27 rfl ⟨_, rfl⟩ ?_
  refine jj_g_P_draft h  fl_P_20 d_P_printEscaped_28 ?_
  refine jj_ldcS h 20 rfl d_P_printEscaped_31 ?_
  refine jj_iload_n h d_P_printEscaped_33 rfl ?_
  refine jj_bipush h d_P_printEscaped_34 (by decide) ?_
  refine jj_iand h d_P_printEscaped_36 ?_
  rw [hlo]
  refine jj_callK h (cQ_charAt (i := 20) (by decide) (by omega) (by omega)) cv_P_140 (ro_of he (by first | decide | omega) (by decide)) rfl rfl (by first | assumption | decide) rfl rfl (Nat.le_of_ble_eq_true rfl) d_P_printEscaped_37 (fun v m37 hv => ?_)
  obtain ⟨rfl, rfl⟩ := hv
  rw [hd2]
  refine jj_callV h (cB_put ⟨by decide, by decide⟩ s2.1 s2.2) cv_P_146 (ro_of he (by first | decide | omega) (by decide)) rfl rfl (by unfold mt_N; omega) (ce_B (by omega)) rfl rfl (Nat.le_of_ble_eq_true rfl) d_P_printEscaped_40 (fun v m40 hv => ?_)
  obtain ⟨rfl, rfl⟩ := hv
  refine jj_vret h he d_P_printEscaped_43 ?_
  exact ⟨rfl, rfl⟩
theorem lf_strp (L : List Int) : (strp [13, 10] L).isSome = lfB L := by
  match L with
  | [] => rfl
  | [a] =>
    show (if a = 13 then strp [10] [] else none).isSome = false
    split <;> rfl
  | a :: b :: t =>
    show (if a = 13 then (if b = 10 then some t else none) else none).isSome = decide (a = 13 ∧ b = 10)
    by_cases h1 : a = 13
    · by_cases h2 : b = 10
      · rw [if_pos h1, if_pos h2, decide_eq_true ⟨h1, h2⟩]; rfl
      · rw [if_pos h1, if_neg h2, decide_eq_false (fun z => h2 z.2)]; rfl
    · rw [if_neg h1, decide_eq_false (fun z => h1 z.1)]; rfl
/-- may c stand as it is, wherever it stands on its line -/
def pq_ (c : Int) (r : List Int) : Bool := if bl_ c then decide (r ≠ []) && !(lfB r) else decide (32 < c ∧ c < 127 ∧ c ≠ 61)
theorem pn_pq (c : Int) (r : List Int) (col : Int) : pnB c r col = (pq_ c r && !(decide (c = 45 ∧ col = 0))) := by
  unfold pnB pq_
  by_cases hb : bl_ c
  · rw [if_pos hb, if_pos hb, decide_eq_false (fun z : c = 45 ∧ col = 0 => by rcases hb with hb | hb <;> omega)]
    simp
  · rw [if_neg hb, if_neg hb]
    by_cases h1 : 32 < c ∧ c < 127 ∧ c ≠ 61
    · by_cases h2 : c = 45 ∧ col = 0
      · rw [decide_eq_true h1, decide_eq_true h2, decide_eq_false (fun z => z.2.2.2 h2)]; rfl
      · rw [decide_eq_true h1, decide_eq_false h2, decide_eq_true ⟨h1.1, h1.2.1, h1.2.2, h2⟩]; rfl
    · rw [decide_eq_false h1, decide_eq_false (fun z => h1 ⟨z.1, z.2.1, z.2.2.1⟩)]; rfl
theorem cP_isPlain {G : mt_G} {l : Launch} {mem : mt_M} {p e : Int} (hw : bw_ mem 5) (p0 : 0 ≤ p) (p1 : p < e) (e1 : e ≤ mem 5 1) : CT G l y_P_isPlain c_P_isPlain 4 (some .boolean) 6 [vr G 20, vi p, vi e] mem (fun v m' => v = some (vi (if pq_ (mem 13 p) (slc (mem 13) (p + 1) e) then 1 else 0)) ∧ mem = m') := by
  have hsz := hw.2.2.1
  have hl5 : ln_ (5 + 8) = 320 := rfl
  refine CT.intro (by decide) rfl (Nat.le_of_ble_eq_true rfl) (fun X h he => ?_)
  have hby : 0 ≤ mem 13 p ∧ mem 13 p ≤ 255 := hw.2.2.2 p p0 (by omega)
  have t18 : tx_ 18 = [13, 10] := rfl
  by_cases hb : bl_ (mem 13 p)
  · have e0 : pq_ (mem 13 p) (slc (mem 13) (p + 1) e) = (decide (slc (mem 13) (p + 1) e ≠ []) && !(lfB (slc (mem 13) (p + 1) e))) := if_pos hb
    rw [e0] at he
    by_cases hp : p + 1 < e
    · have hne : slc (mem 13) (p + 1) e ≠ [] := by rw [slc_cons hp]; simp
      rw [decide_eq_true hne, Bool.true_and] at he
      cases hl : lfB (slc (mem 13) (p + 1) e) with
      | false =>
        rw [hl] at he
        refine jj_aload_n h d_P_isPlain_0 rfl ⟨_, rfl⟩ ?_
        refine jj_g_P_tree h  fl_P_9 d_P_isPlain_1 ?_
        refine jj_g_T_contents h  fl_P_122 d_P_isPlain_4 ?_
        refine jj_iload_n h d_P_isPlain_7 rfl ?_
        refine jj_callV h (cB_in hw p0 (by omega)) cv_P_134 (ro_of he (by first | decide | omega) (by decide)) rfl rfl (by unfold mt_N; omega) (ce_B (by omega)) rfl rfl (Nat.le_of_ble_eq_true rfl) d_P_isPlain_8 (fun v m8 hv => ?_)
        obtain ⟨rfl, rfl⟩ := hv
        show JJ G X 0 0 mem _ _ (vi (mem 13 p) :: _)
        refine jj_istore_n h d_P_isPlain_11 (Nat.le_of_ble_eq_true rfl) rfl ?_
        refine jj_iload_n h d_P_isPlain_12 rfl ?_
        refine jj_callN h (cX_isBlank ⟨by omega, by omega⟩) cv_P_160 (ro_of he (by first | decide | omega) (by decide)) rfl rfl rfl (Nat.le_of_ble_eq_true rfl) d_P_isPlain_13 (fun v m13 hv => ?_)
        obtain ⟨rfl, rfl⟩ := hv
        rw [if_pos hb]
        refine jj_if_eq h 51 d_P_isPlain_16 (by decide) ⟨by omega, by omega⟩ (fun q16 => absurd q16 (by omega)) (fun _ => ?_)
        refine jj_iload_n h d_P_isPlain_19 rfl ?_
        refine jj_iconst h d_P_isPlain_20 ?_
        refine jj_iadd h d_P_isPlain_21 ?_
        refine jj_iload_n h d_P_isPlain_22 rfl ?_
        refine jj_icmp_ge h 49 d_P_isPlain_23 (by decide) ⟨by omega, by omega⟩ ⟨by omega, by omega⟩ (fun q23 => absurd q23 (by omega)) (fun _ => ?_)
        refine jj_aload_n h d_P_isPlain_26 rfl ⟨_, rfl⟩ ?_
        refine jj_g_P_tree h  fl_P_9 d_P_isPlain_27 ?_
        refine jj_g_T_contents h  fl_P_122 d_P_isPlain_30 ?_
        refine jj_ldcS h 18 rfl d_P_isPlain_33 ?_
        refine jj_iload_n h d_P_isPlain_35 rfl ?_
        refine jj_iconst h d_P_isPlain_36 ?_
        refine jj_iadd h d_P_isPlain_37 ?_
        refine jj_iload_n h d_P_isPlain_38 rfl ?_
        refine jj_callV h (cB_has (i := 18) (by decide) hw (by omega) (by omega) e1) cv_P_149 (ro_of he (by first | decide | omega) (by decide)) rfl rfl (by unfold mt_N; omega) (ce_B (by omega)) rfl rfl (Nat.le_of_ble_eq_true rfl) d_P_isPlain_39 (fun v m39 hv => ?_)
        obtain ⟨rfl, rfl⟩ := hv
        rw [show mem (5 + 8) = mem 13 from rfl, t18, lf_strp, hl, if_neg (by decide)]
        refine jj_if_ne h 49 d_P_isPlain_42 (by decide) ⟨by omega, by omega⟩ (fun q42 => absurd (by omega) q42) (fun _ => ?_)
        refine jj_iconst h d_P_isPlain_45 ?_
        refine jj_goto h 50 d_P_isPlain_46 (by decide) ?_
        refine jj_zret h he (by omega) d_P_isPlain_50 ?_
        exact ⟨rfl, rfl⟩
      | true =>
        rw [hl] at he
        refine jj_aload_n h d_P_isPlain_0 rfl ⟨_, rfl⟩ ?_
        refine jj_g_P_tree h  fl_P_9 d_P_isPlain_1 ?_
        refine jj_g_T_contents h  fl_P_122 d_P_isPlain_4 ?_
        refine jj_iload_n h d_P_isPlain_7 rfl ?_
        refine jj_callV h (cB_in hw p0 (by omega)) cv_P_134 (ro_of he (by first | decide | omega) (by decide)) rfl rfl (by unfold mt_N; omega) (ce_B (by omega)) rfl rfl (Nat.le_of_ble_eq_true rfl) d_P_isPlain_8 (fun v m8 hv => ?_)
        obtain ⟨rfl, rfl⟩ := hv
        show JJ G X 0 0 mem _ _ (vi (mem 13 p) :: _)
        refine jj_istore_n h d_P_isPlain_11 (Nat.le_of_ble_eq_true rfl) rfl ?_
        refine jj_iload_n h d_P_isPlain_12 rfl ?_
        refine jj_callN h (cX_isBlank ⟨by omega, by omega⟩) cv_P_160 (ro_of he (by first | decide | omega) (by decide)) rfl rfl rfl (Nat.le_of_ble_eq_true rfl) d_P_isPlain_13 (fun v m13 hv => ?_)
        obtain ⟨rfl, rfl⟩ := hv
        rw [if_pos hb]
        refine jj_if_eq h 51 d_P_isPlain_16 (by decide) ⟨by omega, by omega⟩ (fun q16 => absurd q16 (by omega)) (fun _ => ?_)
        refine jj_iload_n h d_P_isPlain_19 rfl ?_
        refine jj_iconst h d_P_isPlain_20 ?_
        refine jj_iadd h d_P_isPlain_21 ?_
        refine jj_iload_n h d_P_isPlain_22 rfl ?_
        refine jj_icmp_ge h 49 d_P_isPlain_23 (by decide) ⟨by omega, by omega⟩ ⟨by omega, by omega⟩ (fun q23 => absurd q23 (by omega)) (fun _ => ?_)
        refine jj_aload_n h d_P_isPlain_26 rfl ⟨_, rfl⟩ ?_
        refine jj_g_P_tree h  fl_P_9 d_P_isPlain_27 ?_
        refine jj_g_T_contents h  fl_P_122 d_P_isPlain_30 ?_
        refine jj_ldcS h 18 rfl d_P_isPlain_33 ?_
        refine jj_iload_n h d_P_isPlain_35 rfl ?_
        refine jj_iconst h d_P_isPlain_36 ?_
        refine jj_iadd h d_P_isPlain_37 ?_
        refine jj_iload_n h d_P_isPlain_38 rfl ?_
        refine jj_callV h (cB_has (i := 18) (by decide) hw (by omega) (by omega) e1) cv_P_149 (ro_of he (by first | decide | omega) (by decide)) rfl rfl (by unfold mt_N; omega) (ce_B (by omega)) rfl rfl (Nat.le_of_ble_eq_true rfl) d_P_isPlain_39 (fun v m39 hv => ?_)
        obtain ⟨rfl, rfl⟩ := hv
        rw [show mem (5 + 8) = mem 13 from rfl, t18, lf_strp, hl, if_pos rfl]
        refine jj_if_ne h 49 d_P_isPlain_42 (by decide) ⟨by omega, by omega⟩ (fun _ => ?_) (fun q42 => absurd q42 (by omega))
        refine jj_iconst h d_P_isPlain_49 ?_
        refine jj_zret h he (by omega) d_P_isPlain_50 ?_
        exact ⟨rfl, rfl⟩
    · rw [slc_nil (by omega)] at he
      refine jj_aload_n h d_P_isPlain_0 rfl ⟨_, rfl⟩ ?_
      refine jj_g_P_tree h  fl_P_9 d_P_isPlain_1 ?_
      refine jj_g_T_contents h  fl_P_122 d_P_isPlain_4 ?_
      refine jj_iload_n h d_P_isPlain_7 rfl ?_
      refine jj_callV h (cB_in hw p0 (by omega)) cv_P_134 (ro_of he (by first | decide | omega) (by decide)) rfl rfl (by unfold mt_N; omega) (ce_B (by omega)) rfl rfl (Nat.le_of_ble_eq_true rfl) d_P_isPlain_8 (fun v m8 hv => ?_)
      obtain ⟨rfl, rfl⟩ := hv
      show JJ G X 0 0 mem _ _ (vi (mem 13 p) :: _)
      refine jj_istore_n h d_P_isPlain_11 (Nat.le_of_ble_eq_true rfl) rfl ?_
      refine jj_iload_n h d_P_isPlain_12 rfl ?_
      refine jj_callN h (cX_isBlank ⟨by omega, by omega⟩) cv_P_160 (ro_of he (by first | decide | omega) (by decide)) rfl rfl rfl (Nat.le_of_ble_eq_true rfl) d_P_isPlain_13 (fun v m13 hv => ?_)
      obtain ⟨rfl, rfl⟩ := hv
      rw [if_pos hb]
      refine jj_if_eq h 51 d_P_isPlain_16 (by decide) ⟨by omega, by omega⟩ (fun q16 => absurd q16 (by omega)) (fun _ => ?_)
      refine jj_iload_n h d_P_isPlain_19 rfl ?_
      refine jj_iconst h d_P_isPlain_20 ?_
      refine jj_iadd h d_P_isPlain_21 ?_
      refine jj_iload_n h d_P_isPlain_22 rfl ?_
      refine jj_icmp_ge h 49 d_P_isPlain_23 (by decide) ⟨by omega, by omega⟩ ⟨by omega, by omega⟩ (fun _ => ?_) (fun q23 => absurd (by omega) q23)
      refine jj_iconst h d_P_isPlain_49 ?_
      refine jj_zret h he (by omega) d_P_isPlain_50 ?_
      exact ⟨rfl, rfl⟩
  · have e0 : pq_ (mem 13 p) (slc (mem 13) (p + 1) e) = decide (32 < mem 13 p ∧ mem 13 p < 127 ∧ mem 13 p ≠ 61) := if_neg hb
    rw [e0] at he
    refine jj_aload_n h d_P_isPlain_0 rfl ⟨_, rfl⟩ ?_
    refine jj_g_P_tree h  fl_P_9 d_P_isPlain_1 ?_
    refine jj_g_T_contents h  fl_P_122 d_P_isPlain_4 ?_
    refine jj_iload_n h d_P_isPlain_7 rfl ?_
    refine jj_callV h (cB_in hw p0 (by omega)) cv_P_134 (ro_of he (by first | decide | omega) (by decide)) rfl rfl (by unfold mt_N; omega) (ce_B (by omega)) rfl rfl (Nat.le_of_ble_eq_true rfl) d_P_isPlain_8 (fun v m8 hv => ?_)
    obtain ⟨rfl, rfl⟩ := hv
    show JJ G X 0 0 mem _ _ (vi (mem 13 p) :: _)
    refine jj_istore_n h d_P_isPlain_11 (Nat.le_of_ble_eq_true rfl) rfl ?_
    refine jj_iload_n h d_P_isPlain_12 rfl ?_
    refine jj_callN h (cX_isBlank ⟨by omega, by omega⟩) cv_P_160 (ro_of he (by first | decide | omega) (by decide)) rfl rfl rfl (Nat.le_of_ble_eq_true rfl) d_P_isPlain_13 (fun v m13 hv => ?_)
    obtain ⟨rfl, rfl⟩ := hv
    rw [if_neg hb]
    refine jj_if_eq h 51 d_P_isPlain_16 (by decide) ⟨by omega, by omega⟩ (fun _ => ?_) (fun q16 => absurd (by omega) q16)
    refine jj_iload_n h d_P_isPlain_51 rfl ?_
    refine jj_bipush h d_P_isPlain_52 (by decide) ?_
    refine jj_icmp_lt h 73 d_P_isPlain_54 (by decide) ⟨by omega, by omega⟩ ⟨by omega, by omega⟩ (fun q54 => ?_) (fun q54 => ?_)
    · refine jj_iconst h d_P_isPlain_73 ?_
      refine jj_zret h he (by omega) d_P_isPlain_74 ?_
      exact ⟨by rw [decide_eq_false (by omega)]; rfl, rfl⟩
    · refine jj_iload_n h d_P_isPlain_57 rfl ?_
      refine jj_bipush h d_P_isPlain_58 (by decide) ?_
      refine jj_icmp_gt h 73 d_P_isPlain_60 (by decide) ⟨by omega, by omega⟩ ⟨by omega, by omega⟩ (fun q60 => ?_) (fun q60 => ?_)
      · refine jj_iconst h d_P_isPlain_73 ?_
        refine jj_zret h he (by omega) d_P_isPlain_74 ?_
        exact ⟨by rw [decide_eq_false (by omega)]; rfl, rfl⟩
      · refine jj_iload_n h d_P_isPlain_63 rfl ?_
        refine jj_bipush h d_P_isPlain_64 (by decide) ?_
        refine jj_icmp_eq h 73 d_P_isPlain_66 (by decide) ⟨by omega, by omega⟩ ⟨by omega, by omega⟩ (fun q66 => ?_) (fun q66 => ?_)
        · refine jj_iconst h d_P_isPlain_73 ?_
          refine jj_zret h he (by omega) d_P_isPlain_74 ?_
          exact ⟨by rw [decide_eq_false (by omega)]; rfl, rfl⟩
        · refine jj_iconst h d_P_isPlain_69 ?_
          refine jj_goto h 74 d_P_isPlain_70 (by decide) ?_
          refine jj_zret h he (by omega) d_P_isPlain_74 ?_
          exact ⟨by rw [decide_eq_true (by omega)]; rfl, rfl⟩
set_option maxHeartbeats 6000000 in
theorem cP_printQuoted {G : mt_G} {l : Launch} {mem : mt_M} {p e : Int} (hw : bw_ mem 5) (h8 : 0 ≤ mem 8 1 ∧ mem 8 1 ≤ 700) (p0 : 0 ≤ p) (p1 : p ≤ e) (e1 : e ≤ mem 5 1) : CT G l y_P_printQuotedPrintable c_P_printQuotedPrintable 8 none 7 [vr G 20, vi p, vi e] mem (fun v m' => v = none ∧ bL_ mem 8 (qe_ 0 (slc (mem 13) p e)) = m') := by
  have hsz := hw.2.2.1
  have hl5 : ln_ (5 + 8) = 320 := rfl
  have hl8 : ln_ (8 + 8) = 700 := rfl
  have t18 : tx_ 18 = [13, 10] := rfl
  refine CT.intro (by decide) rfl (Nat.le_of_ble_eq_true rfl) (fun X h he => ?_)
  generalize hD : qe_ 0 (slc (mem 13) p e) = D at *
  have loop : ∀ (n : Nat) (q t col : Int) (out : List Int) (x6 x7 : Option Value), (e - q).toNat ≤ n → p ≤ q → q ≤ e → 0 ≤ t → t ≤ q - p → 0 ≤ col → col ≤ 30 → D = out ++ qe_ col (slc (mem 13) q e) → JJ G X 0 0 (bL_ mem 8 out) 8 [some (vr G 20), some (vi p), some (vi e), some (vi col), some (vi q), some (vi t), x6, x7] [] := by
    intro n
    induction n with
    | zero =>
      intro q t col out x6 x7 k1 k2 k3 k4 k5 k6 k7 k8
      rw [slc_nil (by omega), show qe_ col [] = [] from rfl, List.append_nil] at k8
      subst k8
      refine jj_iload h d_P_printQuotedPrintable_8 rfl ?_
      refine jj_sipush h d_P_printQuotedPrintable_10 (by decide) ?_
      refine jj_icmp_ge h 166 d_P_printQuotedPrintable_13 (by decide) ⟨by omega, by omega⟩ ⟨by omega, by omega⟩ (fun q13 => ?_) (fun q13 => ?_)
      · refine jj_vret h he d_P_printQuotedPrintable_166 ?_
        exact ⟨rfl, rfl⟩
      · refine jj_iload h d_P_printQuotedPrintable_16 rfl ?_
        refine jj_iload_n h d_P_printQuotedPrintable_18 rfl ?_
        refine jj_icmp_ge h 166 d_P_printQuotedPrintable_19 (by decide) ⟨by omega, by omega⟩ ⟨by omega, by omega⟩ (fun _ => ?_) (fun q19 => absurd (by omega) q19)
        refine jj_vret h he d_P_printQuotedPrintable_166 ?_
        exact ⟨rfl, rfl⟩
    | succ n ih =>
      intro q t col out x6 x7 k1 k2 k3 k4 k5 k6 k7 k8
      by_cases hq : e ≤ q
      · rw [slc_nil (by omega), show qe_ col [] = [] from rfl, List.append_nil] at k8
        subst k8
        refine jj_iload h d_P_printQuotedPrintable_8 rfl ?_
        refine jj_sipush h d_P_printQuotedPrintable_10 (by decide) ?_
        refine jj_icmp_ge h 166 d_P_printQuotedPrintable_13 (by decide) ⟨by omega, by omega⟩ ⟨by omega, by omega⟩ (fun q13 => ?_) (fun q13 => ?_)
        · refine jj_vret h he d_P_printQuotedPrintable_166 ?_
          exact ⟨rfl, rfl⟩
        · refine jj_iload h d_P_printQuotedPrintable_16 rfl ?_
          refine jj_iload_n h d_P_printQuotedPrintable_18 rfl ?_
          refine jj_icmp_ge h 166 d_P_printQuotedPrintable_19 (by decide) ⟨by omega, by omega⟩ ⟨by omega, by omega⟩ (fun _ => ?_) (fun q19 => absurd (by omega) q19)
          refine jj_vret h he d_P_printQuotedPrintable_166 ?_
          exact ⟨rfl, rfl⟩
      have sz : ∀ o : List Int, 0 ≤ bL_ mem 8 o 8 1 ∧ bL_ mem 8 o 8 1 ≤ 700 := fun o => bL_size (r := 8) o mem h8.1 h8.2
      have rr : ∀ (o : List Int) (r : Nat), r ≠ 8 → r ≠ 16 → bL_ mem 8 o r = mem r := fun o r a b => bL_row a b _ _
      have r5 := rr out 5 (by decide) (by decide)
      have r13 := rr out 13 (by decide) (by decide)
      have hwm : bw_ (bL_ mem 8 out) 5 := hw.mov r5 r13
      have hcs : slc (mem 13) q e = mem 13 q :: slc (mem 13) (q + 1) e := slc_cons (by omega)
      have hby : 0 ≤ mem 13 q ∧ mem 13 q ≤ 255 := hw.2.2.2 q (by omega) (by omega)
      cases hl : lfB (slc (mem 13) q e) with
      | true =>
        have hq2 : q + 1 < e := by
          refine Decidable.byContradiction fun z => ?_
          rw [hcs, slc_nil (by omega)] at hl
          cases hl
        have hcs2 : slc (mem 13) (q + 1) e = mem 13 (q + 1) :: slc (mem 13) (q + 2) e := by rw [slc_cons hq2, show q + 1 + 1 = q + 2 by omega]
        have hl2 := hl
        rw [hcs, hcs2] at hl2
        have hl3 : mem 13 q = 13 ∧ mem 13 (q + 1) = 10 := of_decide_eq_true hl2
        rw [hcs, hcs2, hl3.1, hl3.2, qe_line, ← List.append_assoc] at k8
        refine jj_iload h d_P_printQuotedPrintable_8 rfl ?_
        refine jj_sipush h d_P_printQuotedPrintable_10 (by decide) ?_
        refine jj_icmp_ge h 166 d_P_printQuotedPrintable_13 (by decide) ⟨by omega, by omega⟩ ⟨by omega, by omega⟩ (fun q13 => absurd q13 (by omega)) (fun _ => ?_)
        refine jj_iload h d_P_printQuotedPrintable_16 rfl ?_
        refine jj_iload_n h d_P_printQuotedPrintable_18 rfl ?_
        refine jj_icmp_ge h 166 d_P_printQuotedPrintable_19 (by decide) ⟨by omega, by omega⟩ ⟨by omega, by omega⟩ (fun q19 => absurd q19 (by omega)) (fun _ => ?_)
        refine jj_aload_n h d_P_printQuotedPrintable_22 rfl ⟨_, rfl⟩ ?_
        refine jj_g_P_tree h  fl_P_9 d_P_printQuotedPrintable_23 ?_
        refine jj_g_T_contents h  fl_P_122 d_P_printQuotedPrintable_26 ?_
        refine jj_ldcS h 18 rfl d_P_printQuotedPrintable_29 ?_
        refine jj_iload h d_P_printQuotedPrintable_31 rfl ?_
        refine jj_iload_n h d_P_printQuotedPrintable_33 rfl ?_
        refine jj_callV h (cB_has (i := 18) (by decide) hwm (by omega) (by omega) (by rw [r5]; exact e1)) cv_P_149 (ro_of he (by first | decide | omega) (by decide)) rfl rfl (by unfold mt_N; omega) (ce_B (by omega)) rfl rfl (Nat.le_of_ble_eq_true rfl) d_P_printQuotedPrintable_34 (fun v m34 hv => ?_)
        obtain ⟨rfl, rfl⟩ := hv
        rw [show bL_ mem 8 out (5 + 8) = mem 13 from r13, t18, lf_strp, hl, if_pos rfl]
        refine jj_if_eq h 57 d_P_printQuotedPrintable_37 (by decide) ⟨by omega, by omega⟩ (fun q37 => absurd q37 (by omega)) (fun _ => ?_)
        refine jj_aload_n h d_P_printQuotedPrintable_40 rfl ⟨_, rfl⟩ ?_
        refine jj_g_P_draft h  fl_P_20 d_P_printQuotedPrintable_41 ?_
        refine jj_ldcS h 18 rfl d_P_printQuotedPrintable_44 ?_
        refine jj_callV h (cB_putText (i := 18) (by decide) ⟨by decide, by decide⟩ (sz out).1 (sz out).2) cv_P_40 (ro_of he (by first | decide | omega) (by decide)) rfl rfl (by unfold mt_N; omega) (ce_B (by omega)) rfl rfl (Nat.le_of_ble_eq_true rfl) d_P_printQuotedPrintable_46 (fun v m46 hv => ?_)
        obtain ⟨rfl, hv⟩ := hv
        rw [t18, ← bL_app] at hv
        subst hv
        refine jj_iconst h d_P_printQuotedPrintable_49 ?_
        refine jj_istore_n h d_P_printQuotedPrintable_50 (Nat.le_of_ble_eq_true rfl) rfl ?_
        refine jj_iinc h d_P_printQuotedPrintable_51 rfl rfl ?_
        refine jj_goto h 160 d_P_printQuotedPrintable_54 (by decide) ?_
        refine jj_iinc h d_P_printQuotedPrintable_160 rfl rfl ?_
        refine jj_goto h 8 d_P_printQuotedPrintable_163 (by decide) ?_
        exact ih (q + 2) (t + 1) 0 (out ++ [13, 10]) _ _ (by omega) (by omega) (by omega) (by omega) (by omega) (by omega) (by omega) k8
      | false =>
        rw [hcs, qe_step col (mem 13 q) _ (by rw [← hcs]; exact hl)] at k8
        have hit := it_r (c := mem 13 q) (r := slc (mem 13) (q + 1) e) (col := col) k6 k7
        have hpn := pn_pq (mem 13 q) (slc (mem 13) (q + 1) e)
        generalize hc : mem 13 q = c at *
        generalize hr : slc (mem 13) (q + 1) e = r at *
        generalize hP : pq_ c r = P at *
        have hW : (30 < col + (if pnB c r col then 1 else 3)) ↔ 30 < col + (if P = true then 1 else 3) := by
          by_cases hz : col = 0
          · subst hz
            constructor
            · intro z; exfalso; split at z <;> omega
            · intro z; exfalso; split at z <;> omega
          · rw [hpn col, decide_eq_false (fun z : c = 45 ∧ col = 0 => hz z.2), Bool.not_false, Bool.and_true]
        -- behind the break of the line
        have tail : ∀ (col' : Int) (out' : List Int), 0 ≤ col' → col' ≤ 29 → cw_ c r col = col' → out ++ cp_ c r col = out' → JJ G X 0 0 (bL_ mem 8 out') 117 [some (vr G 20), some (vi p), some (vi e), some (vi col'), some (vi q), some (vi t), some (vi c), some (vi (if P = true then 1 else 0))] [] := by
          intro col' out' c0 c1 h1 h2
          have hit2 := hit.2.1
          unfold it_ at k8 hit2
          rw [h1, hpn col'] at k8 hit2
          cases P with
          | false =>
            rw [Bool.false_and, if_neg (by decide)] at k8 hit2
            have k8 : D = (out' ++ [61, dg_ (c / 16), dg_ (c % 16)]) ++ qe_ (col' + 3) r := by rw [k8, ← h2, List.append_assoc, List.append_assoc, List.append_assoc]
            have hit2 : col' + 3 ≤ 30 := hit2
            rw [if_neg (by decide)]
            refine jj_iload h d_P_printQuotedPrintable_117 rfl ?_
            refine jj_if_eq h 148 d_P_printQuotedPrintable_119 (by decide) ⟨by decide, by decide⟩ (fun _ => ?_) (fun q119 => absurd (rfl) q119)
            refine jj_aload_n h d_P_printQuotedPrintable_148 rfl ⟨_, rfl⟩ ?_
            refine jj_iload h d_P_printQuotedPrintable_149 rfl ?_
            refine jj_callV h (cP_printEscaped (sz out') hby.1 hby.2) cv_P_157 (ro_of he (by first | decide | omega) (by decide)) rfl rfl (by decide) rfl rfl rfl (Nat.le_of_ble_eq_true rfl) d_P_printQuotedPrintable_151 (fun v m151 hv => ?_)
            obtain ⟨rfl, hv⟩ := hv
            rw [← bL_app] at hv
            subst hv
            refine jj_iinc h d_P_printQuotedPrintable_154 rfl rfl ?_
            refine jj_iinc h d_P_printQuotedPrintable_157 rfl rfl ?_
            refine jj_iinc h d_P_printQuotedPrintable_160 rfl rfl ?_
            refine jj_goto h 8 d_P_printQuotedPrintable_163 (by decide) ?_
            exact ih (q + 1) (t + 1) (col' + 3) (out' ++ [61, dg_ (c / 16), dg_ (c % 16)]) _ _ (by omega) (by omega) (by omega) (by omega) (by omega) (by omega) (by omega) (by rw [hr]; exact k8)
          | true =>
            rw [Bool.true_and] at k8 hit2
            rw [if_pos rfl]
            by_cases hd : c = 45 ∧ col' = 0
            · rw [decide_eq_true hd, Bool.not_true, if_neg (by decide)] at k8 hit2
              have k8 : D = (out' ++ [61, dg_ (c / 16), dg_ (c % 16)]) ++ qe_ (col' + 3) r := by rw [k8, ← h2, List.append_assoc, List.append_assoc, List.append_assoc]
              have hit2 : col' + 3 ≤ 30 := hit2
              refine jj_iload h d_P_printQuotedPrintable_117 rfl ?_
              refine jj_if_eq h 148 d_P_printQuotedPrintable_119 (by decide) ⟨by decide, by decide⟩ (fun q119 => absurd q119 ((by decide))) (fun _ => ?_)
              refine jj_iload h d_P_printQuotedPrintable_122 rfl ?_
              refine jj_bipush h d_P_printQuotedPrintable_124 (by decide) ?_
              refine jj_icmp_ne h 133 d_P_printQuotedPrintable_126 (by decide) ⟨by omega, by omega⟩ ⟨by omega, by omega⟩ (fun q126 => absurd (hd.1) q126) (fun _ => ?_)
              refine jj_iload_n h d_P_printQuotedPrintable_129 rfl ?_
              refine jj_if_le h 148 d_P_printQuotedPrintable_130 (by decide) ⟨by omega, by omega⟩ (fun _ => ?_) (fun q130 => absurd (by omega) q130)
              refine jj_aload_n h d_P_printQuotedPrintable_148 rfl ⟨_, rfl⟩ ?_
              refine jj_iload h d_P_printQuotedPrintable_149 rfl ?_
              refine jj_callV h (cP_printEscaped (sz out') hby.1 hby.2) cv_P_157 (ro_of he (by first | decide | omega) (by decide)) rfl rfl (by decide) rfl rfl rfl (Nat.le_of_ble_eq_true rfl) d_P_printQuotedPrintable_151 (fun v m151 hv => ?_)
              obtain ⟨rfl, hv⟩ := hv
              rw [← bL_app] at hv
              subst hv
              refine jj_iinc h d_P_printQuotedPrintable_154 rfl rfl ?_
              refine jj_iinc h d_P_printQuotedPrintable_157 rfl rfl ?_
              refine jj_iinc h d_P_printQuotedPrintable_160 rfl rfl ?_
              refine jj_goto h 8 d_P_printQuotedPrintable_163 (by decide) ?_
              exact ih (q + 1) (t + 1) (col' + 3) (out' ++ [61, dg_ (c / 16), dg_ (c % 16)]) _ _ (by omega) (by omega) (by omega) (by omega) (by omega) (by omega) (by omega) (by rw [hr]; exact k8)
            · rw [decide_eq_false hd, Bool.not_false, if_pos rfl] at k8 hit2
              have k8 : D = (out' ++ [c]) ++ qe_ (col' + 1) r := by rw [k8, ← h2, List.append_assoc, List.append_assoc, List.append_assoc]
              have fin : JJ G X 0 0 (bL_ mem 8 out') 133 [some (vr G 20), some (vi p), some (vi e), some (vi col'), some (vi q), some (vi t), some (vi c), some (vi 1)] [] := by
                refine jj_aload_n h d_P_printQuotedPrintable_133 rfl ⟨_, rfl⟩ ?_
                refine jj_g_P_draft h  fl_P_20 d_P_printQuotedPrintable_134 ?_
                refine jj_iload h d_P_printQuotedPrintable_137 rfl ?_
                refine jj_callV h (cB_put ⟨by decide, by decide⟩ (sz out').1 (sz out').2) cv_P_146 (ro_of he (by first | decide | omega) (by decide)) rfl rfl (by unfold mt_N; omega) (ce_B (by omega)) rfl rfl (Nat.le_of_ble_eq_true rfl) d_P_printQuotedPrintable_139 (fun v m139 hv => ?_)
                obtain ⟨rfl, hv⟩ := hv
                rw [← bL_snoc] at hv
                subst hv
                refine jj_iinc h d_P_printQuotedPrintable_142 rfl rfl ?_
                refine jj_goto h 157 d_P_printQuotedPrintable_145 (by decide) ?_
                refine jj_iinc h d_P_printQuotedPrintable_157 rfl rfl ?_
                refine jj_iinc h d_P_printQuotedPrintable_160 rfl rfl ?_
                refine jj_goto h 8 d_P_printQuotedPrintable_163 (by decide) ?_
                exact ih (q + 1) (t + 1) (col' + 1) (out' ++ [c]) _ _ (by omega) (by omega) (by omega) (by omega) (by omega) (by omega) (by omega) (by rw [hr]; exact k8)
              refine jj_iload h d_P_printQuotedPrintable_117 rfl ?_
              refine jj_if_eq h 148 d_P_printQuotedPrintable_119 (by decide) ⟨by decide, by decide⟩ (fun q119 => absurd q119 ((by decide))) (fun _ => ?_)
              refine jj_iload h d_P_printQuotedPrintable_122 rfl ?_
              refine jj_bipush h d_P_printQuotedPrintable_124 (by decide) ?_
              refine jj_icmp_ne h 133 d_P_printQuotedPrintable_126 (by decide) ⟨by omega, by omega⟩ ⟨by omega, by omega⟩ (fun q126 => ?_) (fun q126 => ?_)
              · exact fin
              · refine jj_iload_n h d_P_printQuotedPrintable_129 rfl ?_
                refine jj_if_le h 148 d_P_printQuotedPrintable_130 (by decide) ⟨by omega, by omega⟩ (fun q130 => absurd q130 (by omega)) (fun _ => ?_)
                exact fin
        have hPz : 0 ≤ (if P = true then (1 : Int) else 0) ∧ (if P = true then (1 : Int) else 0) ≤ 1 := by split <;> decide
        have hIP := cP_isPlain (G := G) (l := X.2.1) (mem := bL_ mem 8 out) (p := q) (e := e) hwm (by omega) (by omega) (by rw [r5]; exact e1)
        rw [r13, hc, hr, hP] at hIP
        have at91 : ∀ z : Int, z = (if P = true then 1 else 3) → JJ G X 0 0 (bL_ mem 8 out) 91 [some (vr G 20), some (vi p), some (vi e), some (vi col), some (vi q), some (vi t), some (vi c), some (vi (if P = true then 1 else 0))] [vi z, vi col] := by
          intro z hz
          have hz2 : 1 ≤ z ∧ z ≤ 3 := by rw [hz]; split <;> decide
          have s1 := bL_snoc 8 61 out mem
          refine jj_iadd h d_P_printQuotedPrintable_91 ?_
          refine jj_bipush h d_P_printQuotedPrintable_92 (by decide) ?_
          refine jj_icmp_le h 117 d_P_printQuotedPrintable_94 (by decide) ⟨by omega, by omega⟩ ⟨by omega, by omega⟩ (fun q94 => ?_) (fun q94 => ?_)
          · have hw9 := it_n (fun y => absurd (hW.mp y) (by rw [← hz]; omega))
            exact tail col out k6 (by omega) hw9.1 (by rw [hw9.2, List.append_nil])
          · refine jj_aload_n h d_P_printQuotedPrintable_97 rfl ⟨_, rfl⟩ ?_
            refine jj_g_P_draft h  fl_P_20 d_P_printQuotedPrintable_98 ?_
            refine jj_bipush h d_P_printQuotedPrintable_101 (by decide) ?_
            refine jj_callV h (cB_put ⟨by decide, by decide⟩ (sz out).1 (sz out).2) cv_P_146 (ro_of he (by first | decide | omega) (by decide)) rfl rfl (by unfold mt_N; omega) (ce_B (by omega)) rfl rfl (Nat.le_of_ble_eq_true rfl) d_P_printQuotedPrintable_103 (fun v m103 hv => ?_)
            obtain ⟨rfl, hv⟩ := hv
            rw [← bL_snoc] at hv
            subst hv
            refine jj_aload_n h d_P_printQuotedPrintable_106 rfl ⟨_, rfl⟩ ?_
            refine jj_g_P_draft h  fl_P_20 d_P_printQuotedPrintable_107 ?_
            refine jj_ldcS h 18 rfl d_P_printQuotedPrintable_110 ?_
            refine jj_callV h (cB_putText (i := 18) (by decide) ⟨by decide, by decide⟩ (sz _).1 (sz _).2) cv_P_40 (ro_of he (by first | decide | omega) (by decide)) rfl rfl (by unfold mt_N; omega) (ce_B (by omega)) rfl rfl (Nat.le_of_ble_eq_true rfl) d_P_printQuotedPrintable_112 (fun v m112 hv => ?_)
            obtain ⟨rfl, hv⟩ := hv
            rw [t18, ← bL_app] at hv
            subst hv
            refine jj_iconst h d_P_printQuotedPrintable_115 ?_
            refine jj_istore_n h d_P_printQuotedPrintable_116 (Nat.le_of_ble_eq_true rfl) rfl ?_
            have hw9 := it_w (hW.mpr (by rw [← hz]; omega))
            exact tail 0 _ (by decide) (by decide) hw9.1 (by rw [hw9.2, List.append_assoc]; rfl)
        refine jj_iload h d_P_printQuotedPrintable_8 rfl ?_
        refine jj_sipush h d_P_printQuotedPrintable_10 (by decide) ?_
        refine jj_icmp_ge h 166 d_P_printQuotedPrintable_13 (by decide) ⟨by omega, by omega⟩ ⟨by omega, by omega⟩ (fun q13 => absurd q13 (by omega)) (fun _ => ?_)
        refine jj_iload h d_P_printQuotedPrintable_16 rfl ?_
        refine jj_iload_n h d_P_printQuotedPrintable_18 rfl ?_
        refine jj_icmp_ge h 166 d_P_printQuotedPrintable_19 (by decide) ⟨by omega, by omega⟩ ⟨by omega, by omega⟩ (fun q19 => absurd q19 (by omega)) (fun _ => ?_)
        refine jj_aload_n h d_P_printQuotedPrintable_22 rfl ⟨_, rfl⟩ ?_
        refine jj_g_P_tree h  fl_P_9 d_P_printQuotedPrintable_23 ?_
        refine jj_g_T_contents h  fl_P_122 d_P_printQuotedPrintable_26 ?_
        refine jj_ldcS h 18 rfl d_P_printQuotedPrintable_29 ?_
        refine jj_iload h d_P_printQuotedPrintable_31 rfl ?_
        refine jj_iload_n h d_P_printQuotedPrintable_33 rfl ?_
        refine jj_callV h (cB_has (i := 18) (by decide) hwm (by omega) (by omega) (by rw [r5]; exact e1)) cv_P_149 (ro_of he (by first | decide | omega) (by decide)) rfl rfl (by unfold mt_N; omega) (ce_B (by omega)) rfl rfl (Nat.le_of_ble_eq_true rfl) d_P_printQuotedPrintable_34 (fun v m34 hv => ?_)
        obtain ⟨rfl, rfl⟩ := hv
        rw [show bL_ mem 8 out (5 + 8) = mem 13 from r13, t18, lf_strp, hl, if_neg (by decide)]
        refine jj_if_eq h 57 d_P_printQuotedPrintable_37 (by decide) ⟨by omega, by omega⟩ (fun _ => ?_) (fun q37 => absurd (by omega) q37)
        refine jj_aload_n h d_P_printQuotedPrintable_57 rfl ⟨_, rfl⟩ ?_
        refine jj_g_P_tree h  fl_P_9 d_P_printQuotedPrintable_58 ?_
        refine jj_g_T_contents h  fl_P_122 d_P_printQuotedPrintable_61 ?_
        refine jj_iload h d_P_printQuotedPrintable_64 rfl ?_
        refine jj_callV h (cB_in hwm (by omega) (by rw [r5]; omega)) cv_P_134 (ro_of he (by first | decide | omega) (by decide)) rfl rfl (by unfold mt_N; omega) (ce_B (by omega)) rfl rfl (Nat.le_of_ble_eq_true rfl) d_P_printQuotedPrintable_66 (fun v m66 hv => ?_)
        obtain ⟨rfl, rfl⟩ := hv
        show JJ G X 0 0 (bL_ mem 8 out) _ _ (vi (bL_ mem 8 out 13 q) :: _)
        rw [r13, hc]
        refine jj_istore h d_P_printQuotedPrintable_69 (Nat.le_of_ble_eq_true rfl) rfl ?_
        refine jj_aload_n h d_P_printQuotedPrintable_71 rfl ⟨_, rfl⟩ ?_
        refine jj_iload h d_P_printQuotedPrintable_72 rfl ?_
        refine jj_iload_n h d_P_printQuotedPrintable_74 rfl ?_
        refine jj_callV h (hIP) cv_P_153 (ro_of he (by first | decide | omega) (by decide)) rfl rfl (by decide) rfl rfl rfl (Nat.le_of_ble_eq_true rfl) d_P_printQuotedPrintable_75 (fun v m75 hv => ?_)
        obtain ⟨rfl, rfl⟩ := hv
        refine jj_istore h d_P_printQuotedPrintable_78 (Nat.le_of_ble_eq_true rfl) rfl ?_
        refine jj_iload_n h d_P_printQuotedPrintable_80 rfl ?_
        refine jj_iload h d_P_printQuotedPrintable_81 rfl ?_
        refine jj_if_eq h 90 d_P_printQuotedPrintable_83 (by decide) ⟨by omega, by omega⟩ (fun q83 => ?_) (fun q83 => ?_)
        · have hPf : P ≠ true := fun z => by rw [if_pos z] at q83; omega
          refine jj_iconst h d_P_printQuotedPrintable_90 ?_
          exact at91 3 (by rw [if_neg hPf])
        · have hPt : P = true := Decidable.byContradiction fun z => q83 (by rw [if_neg z])
          refine jj_iconst h d_P_printQuotedPrintable_86 ?_
          refine jj_goto h 91 d_P_printQuotedPrintable_87 (by decide) ?_
          exact at91 1 (by rw [if_pos hPt])
  refine jj_iconst h d_P_printQuotedPrintable_0 ?_
  refine jj_istore_n h d_P_printQuotedPrintable_1 (Nat.le_of_ble_eq_true rfl) rfl ?_
  refine jj_iload_n h d_P_printQuotedPrintable_2 rfl ?_
  refine jj_istore h d_P_printQuotedPrintable_3 (Nat.le_of_ble_eq_true rfl) rfl ?_
  refine jj_iconst h d_P_printQuotedPrintable_5 ?_
  refine jj_istore h d_P_printQuotedPrintable_6 (Nat.le_of_ble_eq_true rfl) rfl ?_
  exact loop _ p 0 0 [] none none (Nat.le_refl _) (Int.le_refl _) p1 (Int.le_refl _) (by omega) (by decide) (by decide) (by rw [hD]; rfl)
