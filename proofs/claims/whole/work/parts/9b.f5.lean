/-! The class writes entities. -/
theorem hF_at {F : List (List Int × List Int)} {f : Nat} {q : List Int × List Int} (h : F[f]? = some q) : hF_ (F.drop f) = q.1 ++ [58] ++ [32] ++ q.2 ++ [13, 10] ++ hF_ (F.drop (f + 1)) := by
  have hf := (List.getElem?_eq_some_iff.mp h).1
  rw [List.drop_eq_getElem_cons hf]
  rw [List.getElem?_eq_getElem hf] at h
  rw [Option.some.inj h]
  rfl
theorem cP_printFields {G : mt_G} {l : Launch} {mem : mt_M} {N : Nat} {F : List (List Int × List Int)} (hN : N < 16) (hF : cG mem N F) (hw : bw_ mem 3) (h4 : bw_ mem 4) (h8 : 0 ≤ mem 8 1 ∧ mem 8 1 ≤ 700) : CT G l y_P_printFields c_P_printFields 4 none 6 [vr G 20, vr G (22 + N)] mem (fun v m' => v = none ∧ bL_ mem 8 (hF_ F) = m') := by
  have hl8 : ln_ (8 + 8) = 700 := rfl
  have hl3 : ln_ (3 + 8) = 320 := rfl
  have hl4 : ln_ (4 + 8) = 320 := rfl
  have hsz3 := hw.2.2.1
  have hsz4 := h4.2.2.1
  have t18 : tx_ 18 = [13, 10] := rfl
  have t17 : tx_ 17 = [58, 32] := rfl
  refine CT.intro (by decide) rfl (Nat.le_of_ble_eq_true rfl) (fun X h he => ?_)
  have sz : ∀ o : List Int, 0 ≤ bL_ mem 8 o 8 1 ∧ bL_ mem 8 o 8 1 ≤ 700 := fun o => bL_size (r := 8) o mem h8.1 h8.2
  have rr : ∀ (o : List Int) (r : Nat), r ≠ 8 → r ≠ 16 → bL_ mem 8 o r = mem r := fun o r a b => bL_row a b _ _
  obtain ⟨c1, c2, c3⟩ := hF
  generalize hD : hF_ F = D at *
  have loop : ∀ (n f : Nat) (out : List Int) (x3 : Option Value), F.length - f = n → f ≤ F.length → D = out ++ hF_ (F.drop f) → JJ G X 0 0 (bL_ mem 8 out) 2 [some (vr G 20), some (vr G (22 + N)), some (vi f), x3] [] := by
    intro n
    induction n with
    | zero =>
      intro f out x3 k1 k2 k3
      rw [List.drop_eq_nil_of_le (by omega), show hF_ [] = [] from rfl, List.append_nil] at k3
      subst k3
      have s12 : bL_ mem 8 D (22 + N) 12 = F.length := by rw [rr D _ (by omega) (by omega)]; exact c1
      refine jj_iload_n h d_P_printFields_2 rfl ?_
      refine jj_aload_n h d_P_printFields_3 rfl ⟨_, rfl⟩ ?_
      refine jj_g_E_fieldCount h (by omega) fl_P_65 d_P_printFields_4 ?_
      try simp only [s12]
      refine jj_icmp_ge h 101 d_P_printFields_7 (by decide) ⟨by omega, by omega⟩ ⟨by omega, by omega⟩ (fun _ => ?_) (fun q7 => absurd (by omega) q7)
      refine jj_vret h he d_P_printFields_101 ?_
      exact ⟨rfl, rfl⟩
    | succ n ih =>
      intro f out x3 k1 k2 k3
      obtain ⟨q, hq⟩ : ∃ q, F[f]? = some q := ⟨_, List.getElem?_eq_getElem (by omega)⟩
      rw [hF_at hq] at k3
      obtain ⟨⟨a1, a2, a3, a4⟩, b1, b2, b3, b4⟩ := c3 f q hq
      generalize ha : mem (54 + 8 * N + f) 0 = a at *
      generalize hb : mem (54 + 8 * N + f) 2 = b at *
      have s12 : ∀ o, bL_ mem 8 o (22 + N) 12 = F.length := fun o => by rw [rr o _ (by omega) (by omega)]; exact c1
      have sj0 : ∀ o, bL_ mem 8 o (54 + 8 * N + f) 0 = a := fun o => by rw [rr o _ (by omega) (by omega)]; exact ha
      have sj1 : ∀ o, bL_ mem 8 o (54 + 8 * N + f) 1 = q.1.length := fun o => by rw [rr o _ (by omega) (by omega)]; exact a2
      have sj2 : ∀ o, bL_ mem 8 o (54 + 8 * N + f) 2 = b := fun o => by rw [rr o _ (by omega) (by omega)]; exact hb
      have sj3 : ∀ o, bL_ mem 8 o (54 + 8 * N + f) 3 = q.2.length := fun o => by rw [rr o _ (by omega) (by omega)]; exact b2
      have w3 : ∀ o, bw_ (bL_ mem 8 o) 3 := fun o => hw.mov (rr o _ (by decide) (by decide)) (rr o _ (by decide) (by decide))
      have w4 : ∀ o, bw_ (bL_ mem 8 o) 4 := fun o => h4.mov (rr o _ (by decide) (by decide)) (rr o _ (by decide) (by decide))
      have x11 : ∀ o, bL_ mem 8 o (3 + 8) = mem 11 := fun o => rr o _ (by decide) (by decide)
      have x12 : ∀ o, bL_ mem 8 o (4 + 8) = mem 12 := fun o => rr o _ (by decide) (by decide)
      have y3 : ∀ o, bL_ mem 8 o 3 = mem 3 := fun o => rr o _ (by decide) (by decide)
      have y4 : ∀ o, bL_ mem 8 o 4 = mem 4 := fun o => rr o _ (by decide) (by decide)
      refine jj_iload_n h d_P_printFields_2 rfl ?_
      refine jj_aload_n h d_P_printFields_3 rfl ⟨_, rfl⟩ ?_
      refine jj_g_E_fieldCount h (by omega) fl_P_65 d_P_printFields_4 ?_
      try simp only [s12, sj0, sj1, sj2, sj3]
      refine jj_icmp_ge h 101 d_P_printFields_7 (by decide) ⟨by omega, by omega⟩ ⟨by omega, by omega⟩ (fun q7 => absurd q7 (by omega)) (fun _ => ?_)
      refine jj_iload_n h d_P_printFields_10 rfl ?_
      refine jj_bipush h d_P_printFields_11 (by decide) ?_
      refine jj_icmp_ge h 101 d_P_printFields_13 (by decide) ⟨by omega, by omega⟩ ⟨by omega, by omega⟩ (fun q13 => absurd q13 (by omega)) (fun _ => ?_)
      refine jj_aload_n h d_P_printFields_16 rfl ⟨_, rfl⟩ ?_
      refine jj_g_E_fields h (by omega) fl_P_68 d_P_printFields_17 ?_
      try simp only [s12, sj0, sj1, sj2, sj3]
      refine jj_iload_n h d_P_printFields_20 rfl ?_
      refine jj_aF h hN (by omega) (by omega) d_P_printFields_21 ?_
      rw [show ((f : Int)).toNat = f from rfl]
      refine jj_astore_n h d_P_printFields_22 ⟨_, rfl⟩ (Nat.le_of_ble_eq_true rfl) rfl ?_
      refine jj_aload_n h d_P_printFields_23 rfl ⟨_, rfl⟩ ?_
      refine jj_g_P_draft h  fl_P_20 d_P_printFields_24 ?_
      try simp only [s12, sj0, sj1, sj2, sj3]
      refine jj_aload_n h d_P_printFields_27 rfl ⟨_, rfl⟩ ?_
      refine jj_g_P_tree h  fl_P_9 d_P_printFields_28 ?_
      try simp only [s12, sj0, sj1, sj2, sj3]
      refine jj_g_T_source h  fl_P_72 d_P_printFields_31 ?_
      try simp only [s12, sj0, sj1, sj2, sj3]
      refine jj_aload_n h d_P_printFields_34 rfl ⟨_, rfl⟩ ?_
      refine jj_g_F_nameBegin h (by omega) fl_P_75 d_P_printFields_35 ?_
      try simp only [s12, sj0, sj1, sj2, sj3]
      refine jj_aload_n h d_P_printFields_38 rfl ⟨_, rfl⟩ ?_
      refine jj_g_F_nameBegin h (by omega) fl_P_75 d_P_printFields_39 ?_
      try simp only [s12, sj0, sj1, sj2, sj3]
      refine jj_aload_n h d_P_printFields_42 rfl ⟨_, rfl⟩ ?_
      refine jj_g_F_nameSize h (by omega) fl_P_80 d_P_printFields_43 ?_
      try simp only [s12, sj0, sj1, sj2, sj3]
      refine jj_iadd h d_P_printFields_46 ?_
      refine jj_callV h (cB_putRange (r := 8) ⟨by decide, by decide⟩ (w3 _) (by decide) (sz _).1 (sz _).2 a1 (by omega) (by rw [y3]; exact a3)) cv_P_83 (ro_of he (by first | decide | omega) (by decide)) rfl rfl (by unfold mt_N; omega) (ce_B (by omega)) rfl rfl (Nat.le_of_ble_eq_true rfl) d_P_printFields_47 (fun v m47 hv => ?_)
      obtain ⟨rfl, hv⟩ := hv
      rw [x11, a4, ← bL_app] at hv
      subst hv
      refine jj_aload_n h d_P_printFields_50 rfl ⟨_, rfl⟩ ?_
      refine jj_g_P_draft h  fl_P_20 d_P_printFields_51 ?_
      try simp only [s12, sj0, sj1, sj2, sj3]
      refine jj_ldcS h 17 rfl d_P_printFields_54 ?_
      refine jj_callV h (cB_putText (i := 17) (by decide) ⟨by decide, by decide⟩ (sz _).1 (sz _).2) cv_P_40 (ro_of he (by first | decide | omega) (by decide)) rfl rfl (by unfold mt_N; omega) (ce_B (by omega)) rfl rfl (Nat.le_of_ble_eq_true rfl) d_P_printFields_56 (fun v m56 hv => ?_)
      obtain ⟨rfl, hv⟩ := hv
      rw [t17, ← bL_app] at hv
      subst hv
      refine jj_aload_n h d_P_printFields_59 rfl ⟨_, rfl⟩ ?_
      refine jj_g_P_draft h  fl_P_20 d_P_printFields_60 ?_
      try simp only [s12, sj0, sj1, sj2, sj3]
      refine jj_aload_n h d_P_printFields_63 rfl ⟨_, rfl⟩ ?_
      refine jj_g_P_tree h  fl_P_9 d_P_printFields_64 ?_
      try simp only [s12, sj0, sj1, sj2, sj3]
      refine jj_g_T_values h  fl_P_89 d_P_printFields_67 ?_
      try simp only [s12, sj0, sj1, sj2, sj3]
      refine jj_aload_n h d_P_printFields_70 rfl ⟨_, rfl⟩ ?_
      refine jj_g_F_valueBegin h (by omega) fl_P_92 d_P_printFields_71 ?_
      try simp only [s12, sj0, sj1, sj2, sj3]
      refine jj_aload_n h d_P_printFields_74 rfl ⟨_, rfl⟩ ?_
      refine jj_g_F_valueBegin h (by omega) fl_P_92 d_P_printFields_75 ?_
      try simp only [s12, sj0, sj1, sj2, sj3]
      refine jj_aload_n h d_P_printFields_78 rfl ⟨_, rfl⟩ ?_
      refine jj_g_F_valueSize h (by omega) fl_P_95 d_P_printFields_79 ?_
      try simp only [s12, sj0, sj1, sj2, sj3]
      refine jj_iadd h d_P_printFields_82 ?_
      refine jj_callV h (cB_putRange (r := 8) ⟨by decide, by decide⟩ (w4 _) (by decide) (sz _).1 (sz _).2 b1 (by omega) (by rw [y4]; exact b3)) cv_P_83 (ro_of he (by first | decide | omega) (by decide)) rfl rfl (by unfold mt_N; omega) (ce_B (by omega)) rfl rfl (Nat.le_of_ble_eq_true rfl) d_P_printFields_83 (fun v m83 hv => ?_)
      obtain ⟨rfl, hv⟩ := hv
      rw [x12, b4, ← bL_app] at hv
      subst hv
      refine jj_aload_n h d_P_printFields_86 rfl ⟨_, rfl⟩ ?_
      refine jj_g_P_draft h  fl_P_20 d_P_printFields_87 ?_
      try simp only [s12, sj0, sj1, sj2, sj3]
      refine jj_ldcS h 18 rfl d_P_printFields_90 ?_
      refine jj_callV h (cB_putText (i := 18) (by decide) ⟨by decide, by decide⟩ (sz _).1 (sz _).2) cv_P_40 (ro_of he (by first | decide | omega) (by decide)) rfl rfl (by unfold mt_N; omega) (ce_B (by omega)) rfl rfl (Nat.le_of_ble_eq_true rfl) d_P_printFields_92 (fun v m92 hv => ?_)
      obtain ⟨rfl, hv⟩ := hv
      rw [t18, ← bL_app] at hv
      subst hv
      refine jj_iinc h d_P_printFields_95 rfl rfl ?_
      refine jj_goto h 2 d_P_printFields_98 (by decide) ?_
      exact ih (f + 1) (out ++ q.1 ++ [58, 32] ++ q.2 ++ [13, 10]) _ (by omega) (by omega) (by rw [k3]; simp [List.append_assoc])
  refine jj_iconst h d_P_printFields_0 ?_
  refine jj_istore_n h d_P_printFields_1 (Nat.le_of_ble_eq_true rfl) rfl ?_
  exact loop _ 0 [] _ rfl (by omega) (by rw [← hD]; rfl)
theorem cP_printMark {G : mt_G} {l : Launch} {mem : mt_M} {N i : Nat} {B : List Int} (hi : i < 23) (hN : N < 16) (h6 : bw_ mem 6) (h8 : 0 ≤ mem 8 1 ∧ mem 8 1 ≤ 700) (d1 : 0 ≤ mem (22 + N) 10) (d2 : mem (22 + N) 11 = B.length) (d3 : mem (22 + N) 10 + B.length ≤ mem 6 1) (d4 : slc (mem 14) (mem (22 + N) 10) (mem (22 + N) 10 + B.length) = B) : CT G l y_P_printMark c_P_printMark 3 none 6 [vr G 20, vr G (22 + N), vs G i] mem (fun v m' => v = none ∧ bL_ mem 8 ([45, 45] ++ B ++ tx_ i) = m') := by
  have hl8 : ln_ (8 + 8) = 700 := rfl
  have hl6 : ln_ (6 + 8) = 320 := rfl
  have hsz6 := h6.2.2.1
  have t21 : tx_ 21 = [45, 45] := rfl
  refine CT.intro (by decide) rfl (Nat.le_of_ble_eq_true rfl) (fun X h he => ?_)
  have sz : ∀ o : List Int, 0 ≤ bL_ mem 8 o 8 1 ∧ bL_ mem 8 o 8 1 ≤ 700 := fun o => bL_size (r := 8) o mem h8.1 h8.2
  have rr : ∀ (o : List Int) (r : Nat), r ≠ 8 → r ≠ 16 → bL_ mem 8 o r = mem r := fun o r a b => bL_row a b _ _
  generalize ha : mem (22 + N) 10 = a at *
  have s10 : ∀ o, bL_ mem 8 o (22 + N) 10 = a := fun o => by rw [rr o _ (by omega) (by omega)]; exact ha
  have s11 : ∀ o, bL_ mem 8 o (22 + N) 11 = B.length := fun o => by rw [rr o _ (by omega) (by omega)]; exact d2
  have w6 : ∀ o, bw_ (bL_ mem 8 o) 6 := fun o => h6.mov (rr o _ (by decide) (by decide)) (rr o _ (by decide) (by decide))
  have x14 : ∀ o, bL_ mem 8 o (6 + 8) = mem 14 := fun o => rr o _ (by decide) (by decide)
  have y6 : ∀ o, bL_ mem 8 o 6 = mem 6 := fun o => rr o _ (by decide) (by decide)
  refine jj_aload_n h d_P_printMark_0 rfl ⟨_, rfl⟩ ?_
  refine jj_g_P_draft h  fl_P_20 d_P_printMark_1 ?_
  try simp only [s10, s11]
  refine jj_ldcS h 21 rfl d_P_printMark_4 ?_
  refine jj_callV h (cB_putText (i := 21) (by decide) ⟨by decide, by decide⟩ h8.1 h8.2) cv_P_40 (ro_of he (by first | decide | omega) (by decide)) rfl rfl (by unfold mt_N; omega) (ce_B (by omega)) rfl rfl (Nat.le_of_ble_eq_true rfl) d_P_printMark_6 (fun v m6 hv => ?_)
  obtain ⟨rfl, hv⟩ := hv
  rw [t21] at hv
  subst hv
  refine jj_aload_n h d_P_printMark_9 rfl ⟨_, rfl⟩ ?_
  refine jj_g_P_draft h  fl_P_20 d_P_printMark_10 ?_
  try simp only [s10, s11]
  refine jj_aload_n h d_P_printMark_13 rfl ⟨_, rfl⟩ ?_
  refine jj_g_P_tree h  fl_P_9 d_P_printMark_14 ?_
  try simp only [s10, s11]
  refine jj_g_T_boundaries h  fl_P_98 d_P_printMark_17 ?_
  try simp only [s10, s11]
  refine jj_aload_n h d_P_printMark_20 rfl ⟨_, rfl⟩ ?_
  refine jj_g_E_boundaryBegin h (by omega) fl_P_101 d_P_printMark_21 ?_
  try simp only [s10, s11]
  refine jj_aload_n h d_P_printMark_24 rfl ⟨_, rfl⟩ ?_
  refine jj_g_E_boundaryBegin h (by omega) fl_P_101 d_P_printMark_25 ?_
  try simp only [s10, s11]
  refine jj_aload_n h d_P_printMark_28 rfl ⟨_, rfl⟩ ?_
  refine jj_g_E_boundarySize h (by omega) fl_P_104 d_P_printMark_29 ?_
  try simp only [s10, s11]
  refine jj_iadd h d_P_printMark_32 ?_
  refine jj_callV h (cB_putRange (r := 8) ⟨by decide, by decide⟩ (w6 _) (by decide) (sz _).1 (sz _).2 d1 (by omega) (by rw [y6]; exact d3)) cv_P_83 (ro_of he (by first | decide | omega) (by decide)) rfl rfl (by unfold mt_N; omega) (ce_B (by omega)) rfl rfl (Nat.le_of_ble_eq_true rfl) d_P_printMark_33 (fun v m33 hv => ?_)
  obtain ⟨rfl, hv⟩ := hv
  rw [x14, d4, ← bL_app] at hv
  subst hv
  refine jj_aload_n h d_P_printMark_36 rfl ⟨_, rfl⟩ ?_
  refine jj_g_P_draft h  fl_P_20 d_P_printMark_37 ?_
  try simp only [s10, s11]
  refine jj_aload_n h d_P_printMark_40 rfl ⟨_, rfl⟩ ?_
  refine jj_callV h (cB_putText hi ⟨by decide, by decide⟩ (sz _).1 (sz _).2) cv_P_40 (ro_of he (by first | decide | omega) (by decide)) rfl rfl (by unfold mt_N; omega) (ce_B (by omega)) rfl rfl (Nat.le_of_ble_eq_true rfl) d_P_printMark_41 (fun v m41 hv => ?_)
  obtain ⟨rfl, hv⟩ := hv
  rw [← bL_app] at hv
  subst hv
  refine jj_vret h he d_P_printMark_44 ?_
  exact ⟨rfl, rfl⟩
theorem cP_printContent {G : mt_G} {l : Launch} {mem : mt_M} {N : Nat} {E : mt_E} (hN : N < 16) (hE : cE mem N E) (hk : E.1 0 = 0) (he2 : 0 ≤ E.1 4 ∧ E.1 4 ≤ 2) (h5 : bw_ mem 5) (h8 : 0 ≤ mem 8 1 ∧ mem 8 1 ≤ 700) : CT G l y_P_printContent c_P_printContent 4 none 8 [vr G 20, vr G (22 + N)] mem (fun v m' => v = none ∧ bL_ mem 8 (ct_ E) = m') := by
  have hl8 : ln_ (8 + 8) = 700 := rfl
  have hl5 : ln_ (5 + 8) = 320 := rfl
  have hsz5 := h5.2.2.1
  obtain ⟨⟨a0, a1, a2, a3, a4, a5, a6, a7, a8, a9⟩, -, ⟨c1, c2, c3, c4⟩, -⟩ := hE
  have hct : ct_ E = if E.1 4 = 1 then b6_ 0 E.2.2.1 else if E.1 4 = 2 then qe_ 0 E.2.2.1 else E.2.2.1 := if_pos hk
  refine CT.intro (by decide) rfl (Nat.le_of_ble_eq_true rfl) (fun X h he => ?_)
  generalize ha : mem (22 + N) 8 = a at *
  generalize hen : E.1 4 = en at *
  have m8e : mem (22 + N) 3 = en := a3
  refine jj_aload_n h d_P_printContent_0 rfl ⟨_, rfl⟩ ?_
  refine jj_g_E_contentBegin h (by omega) fl_P_107 d_P_printContent_1 ?_
  try simp only [ha, c2, m8e]
  refine jj_istore_n h d_P_printContent_4 (Nat.le_of_ble_eq_true rfl) rfl ?_
  refine jj_aload_n h d_P_printContent_5 rfl ⟨_, rfl⟩ ?_
  refine jj_g_E_contentBegin h (by omega) fl_P_107 d_P_printContent_6 ?_
  try simp only [ha, c2, m8e]
  refine jj_aload_n h d_P_printContent_9 rfl ⟨_, rfl⟩ ?_
  refine jj_g_E_contentSize h (by omega) fl_P_110 d_P_printContent_10 ?_
  try simp only [ha, c2, m8e]
  refine jj_iadd h d_P_printContent_13 ?_
  refine jj_istore_n h d_P_printContent_14 (Nat.le_of_ble_eq_true rfl) rfl ?_
  refine jj_aload_n h d_P_printContent_15 rfl ⟨_, rfl⟩ ?_
  refine jj_g_E_encoding h (by omega) fl_P_113 d_P_printContent_16 ?_
  try simp only [ha, c2, m8e]
  refine jj_iconst h d_P_printContent_19 ?_
  refine jj_icmp_ne h 32 d_P_printContent_20 (by decide) ⟨by omega, by omega⟩ ⟨by omega, by omega⟩ (fun q20 => ?_) (fun q20 => ?_)
  · refine jj_aload_n h d_P_printContent_32 rfl ⟨_, rfl⟩ ?_
    refine jj_g_E_encoding h (by omega) fl_P_113 d_P_printContent_33 ?_
    try simp only [ha, c2, m8e]
    refine jj_iconst h d_P_printContent_36 ?_
    refine jj_icmp_ne h 49 d_P_printContent_37 (by decide) ⟨by omega, by omega⟩ ⟨by omega, by omega⟩ (fun q37 => ?_) (fun q37 => ?_)
    · refine jj_aload_n h d_P_printContent_49 rfl ⟨_, rfl⟩ ?_
      refine jj_g_P_draft h  fl_P_20 d_P_printContent_50 ?_
      try simp only [ha, c2, m8e]
      refine jj_aload_n h d_P_printContent_53 rfl ⟨_, rfl⟩ ?_
      refine jj_g_P_tree h  fl_P_9 d_P_printContent_54 ?_
      try simp only [ha, c2, m8e]
      refine jj_g_T_contents h  fl_P_122 d_P_printContent_57 ?_
      try simp only [ha, c2, m8e]
      refine jj_iload_n h d_P_printContent_60 rfl ?_
      refine jj_iload_n h d_P_printContent_61 rfl ?_
      refine jj_callV h (cB_putRange (r := 8) ⟨by decide, by decide⟩ h5 (by decide) h8.1 h8.2 c1 (by omega) c3) cv_P_83 (ro_of he (by first | decide | omega) (by decide)) rfl rfl (by unfold mt_N; omega) (ce_B (by omega)) rfl rfl (Nat.le_of_ble_eq_true rfl) d_P_printContent_62 (fun v m62 hv => ?_)
      obtain ⟨rfl, hv⟩ := hv
      rw [show mem (5 + 8) = mem 13 from rfl, c4] at hv
      refine jj_vret h he d_P_printContent_65 ?_
      exact ⟨rfl, by rw [hct, if_neg q20, if_neg q37]; exact hv⟩
    · refine jj_aload_n h d_P_printContent_40 rfl ⟨_, rfl⟩ ?_
      refine jj_iload_n h d_P_printContent_41 rfl ?_
      refine jj_iload_n h d_P_printContent_42 rfl ?_
      refine jj_callV h (cP_printQuoted h5 h8 c1 (by omega) c3) cv_P_119 (ro_of he (by first | decide | omega) (by decide)) rfl rfl (by decide) rfl rfl rfl (Nat.le_of_ble_eq_true rfl) d_P_printContent_43 (fun v m43 hv => ?_)
      obtain ⟨rfl, hv⟩ := hv
      rw [c4] at hv
      refine jj_goto h 65 d_P_printContent_46 (by decide) ?_
      refine jj_vret h he d_P_printContent_65 ?_
      exact ⟨rfl, by rw [hct, if_neg q20, if_pos q37]; exact hv⟩
  · refine jj_aload_n h d_P_printContent_23 rfl ⟨_, rfl⟩ ?_
    refine jj_iload_n h d_P_printContent_24 rfl ?_
    refine jj_iload_n h d_P_printContent_25 rfl ?_
    refine jj_callV h (cP_printBase64 h5 h8 c1 (by omega) c3) cv_P_116 (ro_of he (by first | decide | omega) (by decide)) rfl rfl (by decide) rfl rfl rfl (Nat.le_of_ble_eq_true rfl) d_P_printContent_26 (fun v m26 hv => ?_)
    obtain ⟨rfl, hv⟩ := hv
    rw [c4] at hv
    refine jj_goto h 65 d_P_printContent_29 (by decide) ?_
    refine jj_vret h he d_P_printContent_65 ?_
    exact ⟨rfl, by rw [hct, if_pos q20]; exact hv⟩
theorem RC.ext {m m' : mt_M} {L : List mt_E} (hC : RC m L) (h : ∀ r : Nat, r ≠ 8 → r ≠ 16 → m' r = m r) : RC m' L := by
  obtain ⟨c1, c2, c3, b3, b4, b5, b6, b7⟩ := hC
  have ru : ∀ r : Nat, r ≠ 8 → r ≠ 16 → r + 8 ≠ 8 → r + 8 ≠ 16 → up_ m m' r := fun r a b c d => up_.same (by rw [h r a b]) (h _ c d)
  refine ⟨by rw [h 17 (by decide) (by decide)]; exact c1, c2, fun N E hN => ?_, b3.mov (h _ (by decide) (by decide)) (h _ (by decide) (by decide)), b4.mov (h _ (by decide) (by decide)) (h _ (by decide) (by decide)), b5.mov (h _ (by decide) (by decide)) (h _ (by decide) (by decide)), b6.mov (h _ (by decide) (by decide)) (h _ (by decide) (by decide)), b7.mov (h _ (by decide) (by decide)) (h _ (by decide) (by decide))⟩
  have hE := c3 N E hN
  exact hE.gen rfl (fun _ _ => rfl) (fun z _ => by rw [h _ (by omega) (by omega)]) (by rw [h _ (by omega) (by omega)]; exact hE.1.2.2.2.2.1) (fun f _ => h _ (by omega) (by omega)) (by rw [h 3 (by decide) (by decide)]) (h _ (by decide) (by decide)) (ru 4 (by decide) (by decide) (by decide) (by decide)) (ru 5 (by decide) (by decide) (by decide) (by decide)) (ru 6 (by decide) (by decide) (by decide) (by decide))
theorem gE_get {L : List mt_E} {k : Int} (h0 : 0 ≤ k) (h1 : k < L.length) : L[k.toNat]? = some (gE L k) := by
  unfold gE
  rw [List.getElem?_eq_getElem (by omega), List.getD_eq_getElem?_getD, List.getElem?_eq_getElem (by omega)]
  rfl
theorem wP_no {g : Int → List Int} {L : List mt_E} {e : Int} : ∀ (j : Nat) (k : Int), (L.length - k).toNat = j → 0 ≤ k → (∀ i : Int, 0 ≤ i → i < L.length → (gE L i).1 2 ≠ e) → wP_ g L e j k = dl_ (gE L e) 1
  | 0, _, _, _, _ => rfl
  | j + 1, k, hj, hk, h => by
    show (if (gE L k).1 2 = e then dl_ (gE L e) 0 ++ g k ++ nlE (gE L e) ++ wP_ g L e j (k + 1) else wP_ g L e j (k + 1)) = _
    rw [if_neg (h k hk (by omega))]
    exact wP_no j (k + 1) (by omega) (by omega) h
set_option maxHeartbeats 6000000 in
theorem cP_printEntity {G : mt_G} {L : List mt_E} (hkb : kb_ L) (hti : TI_ L) : ∀ (j : Nat) (l : Launch) (mem : mt_M) (e : Int), j ≤ 4 → RC mem L → (0 ≤ mem 8 1 ∧ mem 8 1 ≤ 700) → 0 ≤ e → e < L.length → CT G l y_P_printEntity c_P_printEntity 6 none (9 + j) [vr G 20, vi e, vi (5 - (j : Int))] mem (fun v m' => v = none ∧ bL_ mem 8 (wE_ L j e) = m') := by
  intro j
  induction j with
  | zero =>
    intro l mem e hj hC h8 e0 e1
    have c17 := hC.1
    have c16 := hC.2.1
    refine CT.intro (by decide) rfl (Nat.le_of_ble_eq_true rfl) (fun X h he => ?_)
    rw [show (5 : Int) - ((0 : Nat) : Int) = 5 from rfl]
    refine jj_iload_n h d_P_printEntity_0 rfl ?_
    refine jj_if_lt h 26 d_P_printEntity_1 (by decide) ⟨by omega, by omega⟩ (fun q1 => absurd q1 (by omega)) (fun _ => ?_)
    refine jj_iload_n h d_P_printEntity_4 rfl ?_
    refine jj_aload_n h d_P_printEntity_5 rfl ⟨_, rfl⟩ ?_
    refine jj_g_P_tree h  fl_P_9 d_P_printEntity_6 ?_
    try simp only [c17]
    refine jj_g_T_count h  fl_P_24 d_P_printEntity_9 ?_
    try simp only [c17]
    refine jj_icmp_ge h 26 d_P_printEntity_12 (by decide) ⟨by omega, by omega⟩ ⟨by omega, by omega⟩ (fun q12 => absurd q12 (by omega)) (fun _ => ?_)
    refine jj_iload_n h d_P_printEntity_15 rfl ?_
    refine jj_bipush h d_P_printEntity_16 (by decide) ?_
    refine jj_icmp_ge h 26 d_P_printEntity_18 (by decide) ⟨by omega, by omega⟩ ⟨by omega, by omega⟩ (fun q18 => absurd q18 (by omega)) (fun _ => ?_)
    refine jj_iload_n h d_P_printEntity_21 rfl ?_
    refine jj_iconst h d_P_printEntity_22 ?_
    refine jj_icmp_le h 27 d_P_printEntity_23 (by decide) ⟨by decide, by decide⟩ ⟨by decide, by decide⟩ (fun q23 => absurd q23 ((by decide))) (fun _ => ?_)
    refine jj_vret h he d_P_printEntity_26 ?_
    exact ⟨rfl, rfl⟩
  | succ j ih =>
    intro l mem e hj hC h8 e0 e1
    have hl8 : ln_ (8 + 8) = 700 := rfl
    have t18 : tx_ 18 = [13, 10] := rfl
    have t21 : tx_ 21 = [45, 45] := rfl
    have c17 := hC.1
    have c16 := hC.2.1
    refine CT.intro (by decide) rfl (Nat.le_of_ble_eq_true rfl) (fun X h he => ?_)
    have hEg := gE_get e0 e1
    have hE := hC.2.2.1 _ _ hEg
    have hkE := hkb e e0 e1
    generalize hEE : gE L e = E at *
    have hWd : wE_ L (j + 1) e = hd_ E ++ wP_ (wE_ L j) L e (L.length - (e + 1)).toNat (e + 1) := by rw [← hEE]; rfl
    generalize hD : wE_ L (j + 1) e = D at *
    have hen : e.toNat < 16 := by omega
    have k0 := hE.1.1
    have sz : ∀ o : List Int, 0 ≤ bL_ mem 8 o 8 1 ∧ bL_ mem 8 o 8 1 ≤ 700 := fun o => bL_size (r := 8) o mem h8.1 h8.2
    have rr : ∀ (o : List Int) (r : Nat), r ≠ 8 → r ≠ 16 → bL_ mem 8 o r = mem r := fun o r a b => bL_row a b _ _
    have hCo : ∀ o, RC (bL_ mem 8 o) L := fun o => hC.ext (rr o)
    have s0 : ∀ o, bL_ mem 8 o (22 + e.toNat) 0 = E.1 0 := fun o => by rw [rr o _ (by omega) (by omega)]; exact k0
    have s17 : ∀ o, bL_ mem 8 o 17 7 = L.length := fun o => by rw [rr o _ (by omega) (by omega)]; exact c17
    generalize hdp : (5 : Int) - ((j + 1 : Nat) : Int) = dp at *
    have hdp2 : dp + 1 = 5 - (j : Int) := by omega
    have hdp3 : 1 ≤ dp ∧ dp ≤ 4 := by omega
    by_cases hk0 : E.1 0 = 0
    · have hno : wP_ (wE_ L j) L e (L.length - (e + 1)).toNat (e + 1) = [] := by
        rw [wP_no _ _ rfl (by omega) (fun i i0 i1 z => by
          have := (hti i i0 i1).2 (by omega)
          rw [z, hEE] at this
          exact this.2 hk0), hEE]
        unfold dl_; rw [if_neg (by omega)]
      rw [hno, List.append_nil] at hWd
      have hWd : D = hF_ E.2.1 ++ [13, 10] ++ ct_ E := hWd
      refine jj_iload_n h d_P_printEntity_0 rfl ?_
      refine jj_if_lt h 26 d_P_printEntity_1 (by decide) ⟨by omega, by omega⟩ (fun q1 => absurd q1 (by omega)) (fun _ => ?_)
      refine jj_iload_n h d_P_printEntity_4 rfl ?_
      refine jj_aload_n h d_P_printEntity_5 rfl ⟨_, rfl⟩ ?_
      refine jj_g_P_tree h  fl_P_9 d_P_printEntity_6 ?_
      try simp only [c17, s0]
      refine jj_g_T_count h  fl_P_24 d_P_printEntity_9 ?_
      try simp only [c17, s0]
      refine jj_icmp_ge h 26 d_P_printEntity_12 (by decide) ⟨by omega, by omega⟩ ⟨by omega, by omega⟩ (fun q12 => absurd q12 (by omega)) (fun _ => ?_)
      refine jj_iload_n h d_P_printEntity_15 rfl ?_
      refine jj_bipush h d_P_printEntity_16 (by decide) ?_
      refine jj_icmp_ge h 26 d_P_printEntity_18 (by decide) ⟨by omega, by omega⟩ ⟨by omega, by omega⟩ (fun q18 => absurd q18 (by omega)) (fun _ => ?_)
      refine jj_iload_n h d_P_printEntity_21 rfl ?_
      refine jj_iconst h d_P_printEntity_22 ?_
      refine jj_icmp_le h 27 d_P_printEntity_23 (by decide) ⟨by omega, by omega⟩ ⟨by omega, by omega⟩ (fun _ => ?_) (fun q23 => absurd (by omega) q23)
      refine jj_aload_n h d_P_printEntity_27 rfl ⟨_, rfl⟩ ?_
      refine jj_g_P_tree h  fl_P_9 d_P_printEntity_28 ?_
      try simp only [c17, s0]
      refine jj_g_T_entities h  fl_P_30 d_P_printEntity_31 ?_
      try simp only [c17, s0]
      refine jj_iload_n h d_P_printEntity_34 rfl ?_
      refine jj_aE h (by omega) (by omega) d_P_printEntity_35 ?_
      refine jj_astore_n h d_P_printEntity_36 ⟨_, rfl⟩ (Nat.le_of_ble_eq_true rfl) rfl ?_
      refine jj_aload_n h d_P_printEntity_37 rfl ⟨_, rfl⟩ ?_
      refine jj_aload_n h d_P_printEntity_38 rfl ⟨_, rfl⟩ ?_
      refine jj_callV h (cP_printFields hen hE.2.1 hC.2.2.2.1 hC.2.2.2.2.1 h8) cv_P_34 (ro_of he (by first | decide | omega) (by decide)) rfl rfl (by decide) rfl rfl rfl (Nat.le_of_ble_eq_true rfl) d_P_printEntity_39 (fun v m39 hv => ?_)
      obtain ⟨rfl, rfl⟩ := hv
      refine jj_aload_n h d_P_printEntity_42 rfl ⟨_, rfl⟩ ?_
      refine jj_g_P_draft h  fl_P_20 d_P_printEntity_43 ?_
      try simp only [c17, s0]
      refine jj_ldcS h 18 rfl d_P_printEntity_46 ?_
      refine jj_callV h (cB_putText (i := 18) (by decide) ⟨by decide, by decide⟩ (sz _).1 (sz _).2) cv_P_40 (ro_of he (by first | decide | omega) (by decide)) rfl rfl (by unfold mt_N; omega) (ce_B (by omega)) rfl rfl (Nat.le_of_ble_eq_true rfl) d_P_printEntity_48 (fun v m48 hv => ?_)
      obtain ⟨rfl, hv⟩ := hv
      rw [t18, ← bL_app] at hv
      subst hv
      refine jj_aload_n h d_P_printEntity_51 rfl ⟨_, rfl⟩ ?_
      refine jj_g_E_kind h (by omega) fl_P_44 d_P_printEntity_52 ?_
      try simp only [c17, s0]
      refine jj_if_ne h 64 d_P_printEntity_55 (by decide) ⟨by omega, by omega⟩ (fun q55 => absurd (hk0) q55) (fun _ => ?_)
      refine jj_aload_n h d_P_printEntity_58 rfl ⟨_, rfl⟩ ?_
      refine jj_aload_n h d_P_printEntity_59 rfl ⟨_, rfl⟩ ?_
      refine jj_callV h (cP_printContent hen ((hCo _).2.2.1 _ _ hEg) hk0 hkE.2.1 (hCo _).2.2.2.2.2.1 (sz _)) cv_P_49 (ro_of he (by first | decide | omega) (by decide)) rfl rfl (by decide) rfl rfl rfl (Nat.le_of_ble_eq_true rfl) d_P_printEntity_60 (fun v m60 hv => ?_)
      obtain ⟨rfl, hv⟩ := hv
      rw [← bL_app] at hv
      refine jj_vret h he d_P_printEntity_63 ?_
      exact ⟨rfl, by rw [hWd]; exact hv⟩
    · have hhd : hd_ E = hF_ E.2.1 ++ [13, 10] := by unfold hd_ ct_; rw [if_neg hk0, List.append_nil]
      rw [hhd] at hWd
      obtain ⟨d1, d2, d3, d4⟩ := hE.2.2.2
      have mark : ∀ (i : Nat) (o : List Int), i < 23 → CT G X.2.1 y_P_printMark c_P_printMark 3 none 6 [vr G 20, vr G (22 + e.toNat), vs G i] (bL_ mem 8 o) (fun v m' => v = none ∧ bL_ mem 8 (o ++ ([45, 45] ++ E.2.2.2 ++ tx_ i)) = m') := by
        intro i o hi
        have re := rr o (22 + e.toNat) (by omega) (by omega)
        have r14 := rr o 14 (by decide) (by decide)
        have r6 := rr o 6 (by decide) (by decide)
        have := cP_printMark (G := G) (l := X.2.1) (mem := bL_ mem 8 o) (B := E.2.2.2) hi hen (hCo o).2.2.2.2.2.2.1 (sz o) (by rw [re]; exact d1) (by rw [re]; exact d2) (by rw [re, r6]; exact d3) (by rw [re, r14]; exact d4)
        refine this.mono (fun v m hv => ?_)
        rw [bL_app]
        exact hv
      by_cases hk1 : E.1 0 = 1
      · have hdl : ∀ z : Int, dl_ E z = mk9 E z := fun z => if_pos hk1
        have hnl : nlE E = [13, 10] := if_pos hk1
        have mk0 : mk9 E 0 = [45, 45] ++ E.2.2.2 ++ [13, 10] := by unfold mk9; simp [List.append_assoc]
        have mk1 : mk9 E 1 = [45, 45] ++ E.2.2.2 ++ [45, 45] ++ [13, 10] := by unfold mk9; simp [List.append_assoc]
        have loop : ∀ (n : Nat) (k : Int) (out : List Int), (L.length - k).toNat = n → e + 1 ≤ k → k ≤ L.length → D = out ++ wP_ (wE_ L j) L e n k → JJ G X 0 0 (bL_ mem 8 out) 84 [some (vr G 20), some (vi e), some (vi dp), some (vr G (22 + e.toNat)), some (vi 1), some (vi k)] [] := by
          intro n
          induction n with
          | zero =>
            intro k out a1 a2 a3 a4
            have a4 : D = out ++ dl_ (gE L e) 1 := a4
            rw [hEE, hdl, mk1] at a4
            refine jj_iload h d_P_printEntity_84 rfl ?_
            refine jj_aload_n h d_P_printEntity_86 rfl ⟨_, rfl⟩ ?_
            refine jj_g_P_tree h  fl_P_9 d_P_printEntity_87 ?_
            try simp only [s17]
            refine jj_g_T_count h  fl_P_24 d_P_printEntity_90 ?_
            try simp only [s17]
            refine jj_icmp_ge h 164 d_P_printEntity_93 (by decide) ⟨by omega, by omega⟩ ⟨by omega, by omega⟩ (fun _ => ?_) (fun q93 => absurd (by omega) q93)
            refine jj_iload h d_P_printEntity_164 rfl ?_
            refine jj_if_eq h 185 d_P_printEntity_166 (by decide) ⟨by decide, by decide⟩ (fun q166 => absurd q166 ((by decide))) (fun _ => ?_)
            refine jj_aload_n h d_P_printEntity_169 rfl ⟨_, rfl⟩ ?_
            refine jj_aload_n h d_P_printEntity_170 rfl ⟨_, rfl⟩ ?_
            refine jj_ldcS h 21 rfl d_P_printEntity_171 ?_
            refine jj_callV h (mark 21 out (by decide)) cv_P_55 (ro_of he (by first | decide | omega) (by decide)) rfl rfl (by decide) rfl rfl rfl (Nat.le_of_ble_eq_true rfl) d_P_printEntity_173 (fun v m173 hv => ?_)
            obtain ⟨rfl, rfl⟩ := hv
            refine jj_aload_n h d_P_printEntity_176 rfl ⟨_, rfl⟩ ?_
            refine jj_g_P_draft h  fl_P_20 d_P_printEntity_177 ?_
            try simp only [s17]
            refine jj_ldcS h 18 rfl d_P_printEntity_180 ?_
            refine jj_callV h (cB_putText (i := 18) (by decide) ⟨by decide, by decide⟩ (sz _).1 (sz _).2) cv_P_40 (ro_of he (by first | decide | omega) (by decide)) rfl rfl (by unfold mt_N; omega) (ce_B (by omega)) rfl rfl (Nat.le_of_ble_eq_true rfl) d_P_printEntity_182 (fun v m182 hv => ?_)
            obtain ⟨rfl, hv⟩ := hv
            rw [t18, ← bL_app] at hv
            refine jj_vret h he d_P_printEntity_185 ?_
            exact ⟨rfl, by rw [a4, ← hv, t21]; simp [List.append_assoc]⟩
          | succ n ihn =>
            intro k out a1 a2 a3 a4
            have hkk := (hC.2.2.1 _ _ (gE_get (show 0 ≤ k by omega) (show k < L.length by omega))).1.2.2.1
            have s2 : bL_ mem 8 out (22 + k.toNat) 2 = (gE L k).1 2 := by rw [rr out _ (by omega) (by omega)]; exact hkk
            have hkr := (hkb k (by omega) (by omega)).2.2
            have e9 : wP_ (wE_ L j) L e (n + 1) k = if (gE L k).1 2 = e then dl_ (gE L e) 0 ++ wE_ L j k ++ nlE (gE L e) ++ wP_ (wE_ L j) L e n (k + 1) else wP_ (wE_ L j) L e n (k + 1) := rfl
            rw [e9, hEE, hdl, mk0, hnl] at a4
            by_cases hpe : (gE L k).1 2 = e
            · rw [if_pos hpe] at a4
              have hih := fun o => ih X.2.1 (bL_ mem 8 o) k (by omega) (hCo o) (sz o) (by omega) (by omega)
              rw [← hdp2] at hih
              refine jj_iload h d_P_printEntity_84 rfl ?_
              refine jj_aload_n h d_P_printEntity_86 rfl ⟨_, rfl⟩ ?_
              refine jj_g_P_tree h  fl_P_9 d_P_printEntity_87 ?_
              try simp only [s17, s2]
              refine jj_g_T_count h  fl_P_24 d_P_printEntity_90 ?_
              try simp only [s17, s2]
              refine jj_icmp_ge h 164 d_P_printEntity_93 (by decide) ⟨by omega, by omega⟩ ⟨by omega, by omega⟩ (fun q93 => absurd q93 (by omega)) (fun _ => ?_)
              refine jj_iload h d_P_printEntity_96 rfl ?_
              refine jj_bipush h d_P_printEntity_98 (by decide) ?_
              refine jj_icmp_ge h 164 d_P_printEntity_100 (by decide) ⟨by omega, by omega⟩ ⟨by omega, by omega⟩ (fun q100 => absurd q100 (by omega)) (fun _ => ?_)
              refine jj_aload_n h d_P_printEntity_103 rfl ⟨_, rfl⟩ ?_
              refine jj_g_P_tree h  fl_P_9 d_P_printEntity_104 ?_
              try simp only [s17, s2]
              refine jj_g_T_entities h  fl_P_30 d_P_printEntity_107 ?_
              try simp only [s17, s2]
              refine jj_iload h d_P_printEntity_110 rfl ?_
              refine jj_aE h (by omega) (by omega) d_P_printEntity_112 ?_
              refine jj_g_E_parent h (by omega) fl_P_52 d_P_printEntity_113 ?_
              try simp only [s17, s2]
              refine jj_iload_n h d_P_printEntity_116 rfl ?_
              refine jj_icmp_eq h 123 d_P_printEntity_117 (by decide) ⟨by omega, by omega⟩ ⟨by omega, by omega⟩ (fun _ => ?_) (fun q117 => absurd (hpe) q117)
              refine jj_iload h d_P_printEntity_123 rfl ?_
              refine jj_if_eq h 135 d_P_printEntity_125 (by decide) ⟨by decide, by decide⟩ (fun q125 => absurd q125 ((by decide))) (fun _ => ?_)
              refine jj_aload_n h d_P_printEntity_128 rfl ⟨_, rfl⟩ ?_
              refine jj_aload_n h d_P_printEntity_129 rfl ⟨_, rfl⟩ ?_
              refine jj_ldcS h 18 rfl d_P_printEntity_130 ?_
              refine jj_callV h (mark 18 out (by decide)) cv_P_55 (ro_of he (by first | decide | omega) (by decide)) rfl rfl (by decide) rfl rfl rfl (Nat.le_of_ble_eq_true rfl) d_P_printEntity_132 (fun v m132 hv => ?_)
              obtain ⟨rfl, rfl⟩ := hv
              refine jj_aload_n h d_P_printEntity_135 rfl ⟨_, rfl⟩ ?_
              refine jj_iload h d_P_printEntity_136 rfl ?_
              refine jj_iload_n h d_P_printEntity_138 rfl ?_
              refine jj_iconst h d_P_printEntity_139 ?_
              refine jj_iadd h d_P_printEntity_140 ?_
              refine jj_callV h (hih _) cv_P_59 (ro_of he (by first | decide | omega) (by decide)) rfl rfl (by decide) rfl rfl rfl (Nat.le_of_ble_eq_true rfl) d_P_printEntity_141 (fun v m141 hv => ?_)
              obtain ⟨rfl, hv⟩ := hv
              rw [← bL_app] at hv
              subst hv
              refine jj_iload h d_P_printEntity_144 rfl ?_
              refine jj_if_eq h 158 d_P_printEntity_146 (by decide) ⟨by decide, by decide⟩ (fun q146 => absurd q146 ((by decide))) (fun _ => ?_)
              refine jj_aload_n h d_P_printEntity_149 rfl ⟨_, rfl⟩ ?_
              refine jj_g_P_draft h  fl_P_20 d_P_printEntity_150 ?_
              try simp only [s17, s2]
              refine jj_ldcS h 18 rfl d_P_printEntity_153 ?_
              refine jj_callV h (cB_putText (i := 18) (by decide) ⟨by decide, by decide⟩ (sz _).1 (sz _).2) cv_P_40 (ro_of he (by first | decide | omega) (by decide)) rfl rfl (by unfold mt_N; omega) (ce_B (by omega)) rfl rfl (Nat.le_of_ble_eq_true rfl) d_P_printEntity_155 (fun v m155 hv => ?_)
              obtain ⟨rfl, hv⟩ := hv
              rw [t18, ← bL_app] at hv
              subst hv
              refine jj_iinc h d_P_printEntity_158 rfl rfl ?_
              refine jj_goto h 84 d_P_printEntity_161 (by decide) ?_
              exact ihn (k + 1) _ (by omega) (by omega) (by omega) (by rw [a4]; simp [List.append_assoc])
            · rw [if_neg hpe] at a4
              refine jj_iload h d_P_printEntity_84 rfl ?_
              refine jj_aload_n h d_P_printEntity_86 rfl ⟨_, rfl⟩ ?_
              refine jj_g_P_tree h  fl_P_9 d_P_printEntity_87 ?_
              try simp only [s17, s2]
              refine jj_g_T_count h  fl_P_24 d_P_printEntity_90 ?_
              try simp only [s17, s2]
              refine jj_icmp_ge h 164 d_P_printEntity_93 (by decide) ⟨by omega, by omega⟩ ⟨by omega, by omega⟩ (fun q93 => absurd q93 (by omega)) (fun _ => ?_)
              refine jj_iload h d_P_printEntity_96 rfl ?_
              refine jj_bipush h d_P_printEntity_98 (by decide) ?_
              refine jj_icmp_ge h 164 d_P_printEntity_100 (by decide) ⟨by omega, by omega⟩ ⟨by omega, by omega⟩ (fun q100 => absurd q100 (by omega)) (fun _ => ?_)
              refine jj_aload_n h d_P_printEntity_103 rfl ⟨_, rfl⟩ ?_
              refine jj_g_P_tree h  fl_P_9 d_P_printEntity_104 ?_
              try simp only [s17, s2]
              refine jj_g_T_entities h  fl_P_30 d_P_printEntity_107 ?_
              try simp only [s17, s2]
              refine jj_iload h d_P_printEntity_110 rfl ?_
              refine jj_aE h (by omega) (by omega) d_P_printEntity_112 ?_
              refine jj_g_E_parent h (by omega) fl_P_52 d_P_printEntity_113 ?_
              try simp only [s17, s2]
              refine jj_iload_n h d_P_printEntity_116 rfl ?_
              refine jj_icmp_eq h 123 d_P_printEntity_117 (by decide) ⟨by omega, by omega⟩ ⟨by omega, by omega⟩ (fun q117 => absurd q117 (hpe)) (fun _ => ?_)
              refine jj_goto h 158 d_P_printEntity_120 (by decide) ?_
              refine jj_iinc h d_P_printEntity_158 rfl rfl ?_
              refine jj_goto h 84 d_P_printEntity_161 (by decide) ?_
              exact ihn (k + 1) out (by omega) (by omega) (by omega) a4
        refine jj_iload_n h d_P_printEntity_0 rfl ?_
        refine jj_if_lt h 26 d_P_printEntity_1 (by decide) ⟨by omega, by omega⟩ (fun q1 => absurd q1 (by omega)) (fun _ => ?_)
        refine jj_iload_n h d_P_printEntity_4 rfl ?_
        refine jj_aload_n h d_P_printEntity_5 rfl ⟨_, rfl⟩ ?_
        refine jj_g_P_tree h  fl_P_9 d_P_printEntity_6 ?_
        try simp only [c17, s0]
        refine jj_g_T_count h  fl_P_24 d_P_printEntity_9 ?_
        try simp only [c17, s0]
        refine jj_icmp_ge h 26 d_P_printEntity_12 (by decide) ⟨by omega, by omega⟩ ⟨by omega, by omega⟩ (fun q12 => absurd q12 (by omega)) (fun _ => ?_)
        refine jj_iload_n h d_P_printEntity_15 rfl ?_
        refine jj_bipush h d_P_printEntity_16 (by decide) ?_
        refine jj_icmp_ge h 26 d_P_printEntity_18 (by decide) ⟨by omega, by omega⟩ ⟨by omega, by omega⟩ (fun q18 => absurd q18 (by omega)) (fun _ => ?_)
        refine jj_iload_n h d_P_printEntity_21 rfl ?_
        refine jj_iconst h d_P_printEntity_22 ?_
        refine jj_icmp_le h 27 d_P_printEntity_23 (by decide) ⟨by omega, by omega⟩ ⟨by omega, by omega⟩ (fun _ => ?_) (fun q23 => absurd (by omega) q23)
        refine jj_aload_n h d_P_printEntity_27 rfl ⟨_, rfl⟩ ?_
        refine jj_g_P_tree h  fl_P_9 d_P_printEntity_28 ?_
        try simp only [c17, s0]
        refine jj_g_T_entities h  fl_P_30 d_P_printEntity_31 ?_
        try simp only [c17, s0]
        refine jj_iload_n h d_P_printEntity_34 rfl ?_
        refine jj_aE h (by omega) (by omega) d_P_printEntity_35 ?_
        refine jj_astore_n h d_P_printEntity_36 ⟨_, rfl⟩ (Nat.le_of_ble_eq_true rfl) rfl ?_
        refine jj_aload_n h d_P_printEntity_37 rfl ⟨_, rfl⟩ ?_
        refine jj_aload_n h d_P_printEntity_38 rfl ⟨_, rfl⟩ ?_
        refine jj_callV h (cP_printFields hen hE.2.1 hC.2.2.2.1 hC.2.2.2.2.1 h8) cv_P_34 (ro_of he (by first | decide | omega) (by decide)) rfl rfl (by decide) rfl rfl rfl (Nat.le_of_ble_eq_true rfl) d_P_printEntity_39 (fun v m39 hv => ?_)
        obtain ⟨rfl, rfl⟩ := hv
        refine jj_aload_n h d_P_printEntity_42 rfl ⟨_, rfl⟩ ?_
        refine jj_g_P_draft h  fl_P_20 d_P_printEntity_43 ?_
        try simp only [c17, s0]
        refine jj_ldcS h 18 rfl d_P_printEntity_46 ?_
        refine jj_callV h (cB_putText (i := 18) (by decide) ⟨by decide, by decide⟩ (sz _).1 (sz _).2) cv_P_40 (ro_of he (by first | decide | omega) (by decide)) rfl rfl (by unfold mt_N; omega) (ce_B (by omega)) rfl rfl (Nat.le_of_ble_eq_true rfl) d_P_printEntity_48 (fun v m48 hv => ?_)
        obtain ⟨rfl, hv⟩ := hv
        rw [t18, ← bL_app] at hv
        subst hv
        refine jj_aload_n h d_P_printEntity_51 rfl ⟨_, rfl⟩ ?_
        refine jj_g_E_kind h (by omega) fl_P_44 d_P_printEntity_52 ?_
        try simp only [c17, s0]
        refine jj_if_ne h 64 d_P_printEntity_55 (by decide) ⟨by omega, by omega⟩ (fun _ => ?_) (fun q55 => absurd q55 (hk0))
        refine jj_aload_n h d_P_printEntity_64 rfl ⟨_, rfl⟩ ?_
        refine jj_g_E_kind h (by omega) fl_P_44 d_P_printEntity_65 ?_
        try simp only [c17, s0]
        refine jj_iconst h d_P_printEntity_68 ?_
        refine jj_icmp_ne h 76 d_P_printEntity_69 (by decide) ⟨by omega, by omega⟩ ⟨by decide, by decide⟩ (fun q69 => absurd (hk1) q69) (fun _ => ?_)
        refine jj_iconst h d_P_printEntity_72 ?_
        refine jj_goto h 77 d_P_printEntity_73 (by decide) ?_
        refine jj_istore h d_P_printEntity_77 (Nat.le_of_ble_eq_true rfl) rfl ?_
        refine jj_iload_n h d_P_printEntity_79 rfl ?_
        refine jj_iconst h d_P_printEntity_80 ?_
        refine jj_iadd h d_P_printEntity_81 ?_
        refine jj_istore h d_P_printEntity_82 (Nat.le_of_ble_eq_true rfl) rfl ?_
        exact loop _ (e + 1) _ rfl (by omega) (by omega) (by rw [hWd])
      · have hdl : ∀ z : Int, dl_ E z = [] := fun z => if_neg hk1
        have hnl : nlE E = [] := if_neg hk1
        have loop : ∀ (n : Nat) (k : Int) (out : List Int), (L.length - k).toNat = n → e + 1 ≤ k → k ≤ L.length → D = out ++ wP_ (wE_ L j) L e n k → JJ G X 0 0 (bL_ mem 8 out) 84 [some (vr G 20), some (vi e), some (vi dp), some (vr G (22 + e.toNat)), some (vi 0), some (vi k)] [] := by
          intro n
          induction n with
          | zero =>
            intro k out a1 a2 a3 a4
            have a4 : D = out ++ dl_ (gE L e) 1 := a4
            rw [hEE, hdl, List.append_nil] at a4
            subst a4
            refine jj_iload h d_P_printEntity_84 rfl ?_
            refine jj_aload_n h d_P_printEntity_86 rfl ⟨_, rfl⟩ ?_
            refine jj_g_P_tree h  fl_P_9 d_P_printEntity_87 ?_
            try simp only [s17]
            refine jj_g_T_count h  fl_P_24 d_P_printEntity_90 ?_
            try simp only [s17]
            refine jj_icmp_ge h 164 d_P_printEntity_93 (by decide) ⟨by omega, by omega⟩ ⟨by omega, by omega⟩ (fun _ => ?_) (fun q93 => absurd (by omega) q93)
            refine jj_iload h d_P_printEntity_164 rfl ?_
            refine jj_if_eq h 185 d_P_printEntity_166 (by decide) ⟨by decide, by decide⟩ (fun _ => ?_) (fun q166 => absurd (rfl) q166)
            refine jj_vret h he d_P_printEntity_185 ?_
            exact ⟨rfl, rfl⟩
          | succ n ihn =>
            intro k out a1 a2 a3 a4
            have hkk := (hC.2.2.1 _ _ (gE_get (show 0 ≤ k by omega) (show k < L.length by omega))).1.2.2.1
            have s2 : bL_ mem 8 out (22 + k.toNat) 2 = (gE L k).1 2 := by rw [rr out _ (by omega) (by omega)]; exact hkk
            have hkr := (hkb k (by omega) (by omega)).2.2
            have e9 : wP_ (wE_ L j) L e (n + 1) k = if (gE L k).1 2 = e then dl_ (gE L e) 0 ++ wE_ L j k ++ nlE (gE L e) ++ wP_ (wE_ L j) L e n (k + 1) else wP_ (wE_ L j) L e n (k + 1) := rfl
            rw [e9, hEE, hdl, hnl, List.append_nil, List.nil_append] at a4
            by_cases hpe : (gE L k).1 2 = e
            · rw [if_pos hpe] at a4
              have hih := fun o => ih X.2.1 (bL_ mem 8 o) k (by omega) (hCo o) (sz o) (by omega) (by omega)
              rw [← hdp2] at hih
              refine jj_iload h d_P_printEntity_84 rfl ?_
              refine jj_aload_n h d_P_printEntity_86 rfl ⟨_, rfl⟩ ?_
              refine jj_g_P_tree h  fl_P_9 d_P_printEntity_87 ?_
              try simp only [s17, s2]
              refine jj_g_T_count h  fl_P_24 d_P_printEntity_90 ?_
              try simp only [s17, s2]
              refine jj_icmp_ge h 164 d_P_printEntity_93 (by decide) ⟨by omega, by omega⟩ ⟨by omega, by omega⟩ (fun q93 => absurd q93 (by omega)) (fun _ => ?_)
              refine jj_iload h d_P_printEntity_96 rfl ?_
              refine jj_bipush h d_P_printEntity_98 (by decide) ?_
              refine jj_icmp_ge h 164 d_P_printEntity_100 (by decide) ⟨by omega, by omega⟩ ⟨by omega, by omega⟩ (fun q100 => absurd q100 (by omega)) (fun _ => ?_)
              refine jj_aload_n h d_P_printEntity_103 rfl ⟨_, rfl⟩ ?_
              refine jj_g_P_tree h  fl_P_9 d_P_printEntity_104 ?_
              try simp only [s17, s2]
              refine jj_g_T_entities h  fl_P_30 d_P_printEntity_107 ?_
              try simp only [s17, s2]
              refine jj_iload h d_P_printEntity_110 rfl ?_
              refine jj_aE h (by omega) (by omega) d_P_printEntity_112 ?_
              refine jj_g_E_parent h (by omega) fl_P_52 d_P_printEntity_113 ?_
              try simp only [s17, s2]
              refine jj_iload_n h d_P_printEntity_116 rfl ?_
              refine jj_icmp_eq h 123 d_P_printEntity_117 (by decide) ⟨by omega, by omega⟩ ⟨by omega, by omega⟩ (fun _ => ?_) (fun q117 => absurd (hpe) q117)
              refine jj_iload h d_P_printEntity_123 rfl ?_
              refine jj_if_eq h 135 d_P_printEntity_125 (by decide) ⟨by decide, by decide⟩ (fun _ => ?_) (fun q125 => absurd (rfl) q125)
              refine jj_aload_n h d_P_printEntity_135 rfl ⟨_, rfl⟩ ?_
              refine jj_iload h d_P_printEntity_136 rfl ?_
              refine jj_iload_n h d_P_printEntity_138 rfl ?_
              refine jj_iconst h d_P_printEntity_139 ?_
              refine jj_iadd h d_P_printEntity_140 ?_
              refine jj_callV h (hih _) cv_P_59 (ro_of he (by first | decide | omega) (by decide)) rfl rfl (by decide) rfl rfl rfl (Nat.le_of_ble_eq_true rfl) d_P_printEntity_141 (fun v m141 hv => ?_)
              obtain ⟨rfl, hv⟩ := hv
              rw [← bL_app] at hv
              subst hv
              refine jj_iload h d_P_printEntity_144 rfl ?_
              refine jj_if_eq h 158 d_P_printEntity_146 (by decide) ⟨by decide, by decide⟩ (fun _ => ?_) (fun q146 => absurd (rfl) q146)
              refine jj_iinc h d_P_printEntity_158 rfl rfl ?_
              refine jj_goto h 84 d_P_printEntity_161 (by decide) ?_
              exact ihn (k + 1) _ (by omega) (by omega) (by omega) (by rw [a4, List.append_assoc])
            · rw [if_neg hpe] at a4
              refine jj_iload h d_P_printEntity_84 rfl ?_
              refine jj_aload_n h d_P_printEntity_86 rfl ⟨_, rfl⟩ ?_
              refine jj_g_P_tree h  fl_P_9 d_P_printEntity_87 ?_
              try simp only [s17, s2]
              refine jj_g_T_count h  fl_P_24 d_P_printEntity_90 ?_
              try simp only [s17, s2]
              refine jj_icmp_ge h 164 d_P_printEntity_93 (by decide) ⟨by omega, by omega⟩ ⟨by omega, by omega⟩ (fun q93 => absurd q93 (by omega)) (fun _ => ?_)
              refine jj_iload h d_P_printEntity_96 rfl ?_
              refine jj_bipush h d_P_printEntity_98 (by decide) ?_
              refine jj_icmp_ge h 164 d_P_printEntity_100 (by decide) ⟨by omega, by omega⟩ ⟨by omega, by omega⟩ (fun q100 => absurd q100 (by omega)) (fun _ => ?_)
              refine jj_aload_n h d_P_printEntity_103 rfl ⟨_, rfl⟩ ?_
              refine jj_g_P_tree h  fl_P_9 d_P_printEntity_104 ?_
              try simp only [s17, s2]
              refine jj_g_T_entities h  fl_P_30 d_P_printEntity_107 ?_
              try simp only [s17, s2]
              refine jj_iload h d_P_printEntity_110 rfl ?_
              refine jj_aE h (by omega) (by omega) d_P_printEntity_112 ?_
              refine jj_g_E_parent h (by omega) fl_P_52 d_P_printEntity_113 ?_
              try simp only [s17, s2]
              refine jj_iload_n h d_P_printEntity_116 rfl ?_
              refine jj_icmp_eq h 123 d_P_printEntity_117 (by decide) ⟨by omega, by omega⟩ ⟨by omega, by omega⟩ (fun q117 => absurd q117 (hpe)) (fun _ => ?_)
              refine jj_goto h 158 d_P_printEntity_120 (by decide) ?_
              refine jj_iinc h d_P_printEntity_158 rfl rfl ?_
              refine jj_goto h 84 d_P_printEntity_161 (by decide) ?_
              exact ihn (k + 1) out (by omega) (by omega) (by omega) a4
        refine jj_iload_n h d_P_printEntity_0 rfl ?_
        refine jj_if_lt h 26 d_P_printEntity_1 (by decide) ⟨by omega, by omega⟩ (fun q1 => absurd q1 (by omega)) (fun _ => ?_)
        refine jj_iload_n h d_P_printEntity_4 rfl ?_
        refine jj_aload_n h d_P_printEntity_5 rfl ⟨_, rfl⟩ ?_
        refine jj_g_P_tree h  fl_P_9 d_P_printEntity_6 ?_
        try simp only [c17, s0]
        refine jj_g_T_count h  fl_P_24 d_P_printEntity_9 ?_
        try simp only [c17, s0]
        refine jj_icmp_ge h 26 d_P_printEntity_12 (by decide) ⟨by omega, by omega⟩ ⟨by omega, by omega⟩ (fun q12 => absurd q12 (by omega)) (fun _ => ?_)
        refine jj_iload_n h d_P_printEntity_15 rfl ?_
        refine jj_bipush h d_P_printEntity_16 (by decide) ?_
        refine jj_icmp_ge h 26 d_P_printEntity_18 (by decide) ⟨by omega, by omega⟩ ⟨by omega, by omega⟩ (fun q18 => absurd q18 (by omega)) (fun _ => ?_)
        refine jj_iload_n h d_P_printEntity_21 rfl ?_
        refine jj_iconst h d_P_printEntity_22 ?_
        refine jj_icmp_le h 27 d_P_printEntity_23 (by decide) ⟨by omega, by omega⟩ ⟨by omega, by omega⟩ (fun _ => ?_) (fun q23 => absurd (by omega) q23)
        refine jj_aload_n h d_P_printEntity_27 rfl ⟨_, rfl⟩ ?_
        refine jj_g_P_tree h  fl_P_9 d_P_printEntity_28 ?_
        try simp only [c17, s0]
        refine jj_g_T_entities h  fl_P_30 d_P_printEntity_31 ?_
        try simp only [c17, s0]
        refine jj_iload_n h d_P_printEntity_34 rfl ?_
        refine jj_aE h (by omega) (by omega) d_P_printEntity_35 ?_
        refine jj_astore_n h d_P_printEntity_36 ⟨_, rfl⟩ (Nat.le_of_ble_eq_true rfl) rfl ?_
        refine jj_aload_n h d_P_printEntity_37 rfl ⟨_, rfl⟩ ?_
        refine jj_aload_n h d_P_printEntity_38 rfl ⟨_, rfl⟩ ?_
        refine jj_callV h (cP_printFields hen hE.2.1 hC.2.2.2.1 hC.2.2.2.2.1 h8) cv_P_34 (ro_of he (by first | decide | omega) (by decide)) rfl rfl (by decide) rfl rfl rfl (Nat.le_of_ble_eq_true rfl) d_P_printEntity_39 (fun v m39 hv => ?_)
        obtain ⟨rfl, rfl⟩ := hv
        refine jj_aload_n h d_P_printEntity_42 rfl ⟨_, rfl⟩ ?_
        refine jj_g_P_draft h  fl_P_20 d_P_printEntity_43 ?_
        try simp only [c17, s0]
        refine jj_ldcS h 18 rfl d_P_printEntity_46 ?_
        refine jj_callV h (cB_putText (i := 18) (by decide) ⟨by decide, by decide⟩ (sz _).1 (sz _).2) cv_P_40 (ro_of he (by first | decide | omega) (by decide)) rfl rfl (by unfold mt_N; omega) (ce_B (by omega)) rfl rfl (Nat.le_of_ble_eq_true rfl) d_P_printEntity_48 (fun v m48 hv => ?_)
        obtain ⟨rfl, hv⟩ := hv
        rw [t18, ← bL_app] at hv
        subst hv
        refine jj_aload_n h d_P_printEntity_51 rfl ⟨_, rfl⟩ ?_
        refine jj_g_E_kind h (by omega) fl_P_44 d_P_printEntity_52 ?_
        try simp only [c17, s0]
        refine jj_if_ne h 64 d_P_printEntity_55 (by decide) ⟨by omega, by omega⟩ (fun _ => ?_) (fun q55 => absurd q55 (hk0))
        refine jj_aload_n h d_P_printEntity_64 rfl ⟨_, rfl⟩ ?_
        refine jj_g_E_kind h (by omega) fl_P_44 d_P_printEntity_65 ?_
        try simp only [c17, s0]
        refine jj_iconst h d_P_printEntity_68 ?_
        refine jj_icmp_ne h 76 d_P_printEntity_69 (by decide) ⟨by omega, by omega⟩ ⟨by decide, by decide⟩ (fun _ => ?_) (fun q69 => absurd q69 (hk1))
        refine jj_iconst h d_P_printEntity_76 ?_
        refine jj_istore h d_P_printEntity_77 (Nat.le_of_ble_eq_true rfl) rfl ?_
        refine jj_iload_n h d_P_printEntity_79 rfl ?_
        refine jj_iconst h d_P_printEntity_80 ?_
        refine jj_iadd h d_P_printEntity_81 ?_
        refine jj_istore h d_P_printEntity_82 (Nat.le_of_ble_eq_true rfl) rfl ?_
        exact loop _ (e + 1) _ rfl (by omega) (by omega) (by rw [hWd])
