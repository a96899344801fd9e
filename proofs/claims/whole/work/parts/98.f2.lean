/-! The class: read. -/
theorem cT_start {G : mt_G} {l : Launch} {mem : mt_M} (hw : bw_ mem 1) (h7 : bw_ mem 7) : CT G l y_T_start c_T_start 2 none 3 [vr G 17, vr G 1] mem (fun v m' => v = none ∧ RB m' [] 0 ∧ m' 3 1 = mem 1 1 ∧ (∀ i : Int, 0 ≤ i → i < mem 1 1 → m' 11 i = mem 9 i) ∧ ∀ r : Nat, r ≠ 3 → r ≠ 11 → r ≠ 4 → r ≠ 5 → r ≠ 6 → r ≠ 17 → m' r = mem r) := by
  have hl1 : ln_ (1 + 8) = 320 := rfl
  have hl3 : ln_ (3 + 8) = 320 := rfl
  have hsz := hw.2.2.1
  have hs0 := hw.2.1
  refine CT.intro (by decide) rfl (Nat.le_of_ble_eq_true rfl) (fun X h he => ?_)
  have fin : ∀ m1 m9 : mt_M, bL_ (st_ (st_ mem 3 1 0) 3 2 0) 3 (slc (mem 9) 0 (mem 1 1)) = m1 → st_ (st_ (st_ (st_ (st_ (st_ (st_ m1 4 1 0) 4 2 0) 5 1 0) 5 2 0) 6 1 0) 6 2 0) 17 7 0 = m9 → ((none : Option Value) = none ∧ RB m9 [] 0 ∧ m9 3 1 = mem 1 1 ∧ (∀ i : Int, 0 ≤ i → i < mem 1 1 → m9 11 i = mem 9 i) ∧ ∀ r : Nat, r ≠ 3 → r ≠ 11 → r ≠ 4 → r ≠ 5 → r ≠ 6 → r ≠ 17 → m9 r = mem r) := by
    intro m1 m9 h1 h9
    have hA : ((slc (mem 9) 0 (mem 1 1)).length : Int) = mem 1 1 := by rw [slc_lenI hs0]; omega
    have hAb : ∀ c ∈ slc (mem 9) 0 (mem 1 1), 0 ≤ c ∧ c ≤ 255 := slc_by (fun i i0 i1 => hw.2.2.2 i i0 i1)
    have z1 : st_ (st_ mem 3 1 0) 3 2 0 3 1 = 0 := by rw [st_ne (by decide), st_same]
    have wz : bw_ (st_ (st_ mem 3 1 0) 3 2 0) 3 := ⟨⟨by decide, by decide⟩, by rw [z1]; exact Int.le_refl _, by rw [z1, hl3]; decide, fun i i0 i1 => by rw [z1] at i1; omega⟩
    obtain ⟨f1, f2, f3, f4⟩ := bL_fit (r := 3) (slc (mem 9) 0 (mem 1 1)) (st_ (st_ mem 3 1 0) 3 2 0) (by rw [z1]; exact Int.le_refl _) (by rw [z1, hl3]; omega)
    have w1 := wz.bL hAb (by rw [z1, hl3]; omega)
    rw [h1] at f1 f4 w1
    rw [z1, Int.zero_add] at f1
    rw [z1, Int.zero_add] at f4
    have q0 : ∀ r : Nat, r ≠ 3 → r ≠ 11 → m1 r = mem r := fun r a b => by rw [← h1, bL_row a b, st_row a, st_row a]
    have n0 : ∀ r : Nat, r ≠ 4 → r ≠ 5 → r ≠ 6 → r ≠ 17 → m9 r = m1 r := fun r a b c d => by rw [← h9, st_row d, st_row c, st_row c, st_row b, st_row b, st_row a, st_row a]
    have n4 : m9 4 1 = 0 := by rw [← h9, st_row (by decide), st_row (by decide), st_row (by decide), st_row (by decide), st_row (by decide), st_ne (by decide), st_same]
    have n5 : m9 5 1 = 0 := by rw [← h9, st_row (by decide), st_row (by decide), st_row (by decide), st_ne (by decide), st_same]
    have n6 : m9 6 1 = 0 := by rw [← h9, st_row (by decide), st_ne (by decide), st_same]
    have n17 : m9 17 7 = 0 := by rw [← h9, st_same]
    have n3 : m9 3 1 = mem 1 1 := by rw [n0 3 (by decide) (by decide) (by decide) (by decide), f1, hA]
    have bz : ∀ r : Nat, 1 ≤ r ∧ r ≤ 8 → m9 r 1 = 0 → bw_ m9 r := fun r hr hz => ⟨hr, by rw [hz]; exact Int.le_refl _, by rw [hz]; exact Int.natCast_nonneg _, fun i i0 i1 => by rw [hz] at i1; omega⟩
    refine ⟨rfl, ⟨⟨n17, by decide, fun N E hN => (by cases hN), w1.mov (n0 3 (by decide) (by decide) (by decide) (by decide)) (n0 _ (by decide) (by decide) (by decide) (by decide)), bz 4 ⟨by decide, by decide⟩ n4, bz 5 ⟨by decide, by decide⟩ n5, bz 6 ⟨by decide, by decide⟩ n6, h7.mov (by rw [n0 7 (by decide) (by decide) (by decide) (by decide), q0 7 (by decide) (by decide)]) (by rw [n0 (7 + 8) (by decide) (by decide) (by decide) (by decide), q0 (7 + 8) (by decide) (by decide)])⟩, by omega, by omega, by rw [n6]; decide⟩, n3, fun i i0 i1 => ?_, fun r a b c d e g => by rw [n0 r c d e g, q0 r a b]⟩
    rw [n0 11 (by decide) (by decide) (by decide) (by decide)]
    rw [hA] at f4
    have := slc_inj (f := m1 (3 + 8)) (g := mem 9) (p := 0) (q := 0) (e := mem 1 1) (s := mem 1 1) f4 i0 (by omega)
    rw [Int.zero_add] at this
    exact this
  have e1 : st_ (st_ mem 3 1 0) 3 2 0 1 = mem 1 := by rw [st_row (by decide), st_row (by decide)]
  have e9 : st_ (st_ mem 3 1 0) 3 2 0 9 = mem 9 := by rw [st_row (by decide), st_row (by decide)]
  have e3 : st_ (st_ mem 3 1 0) 3 2 0 3 1 = 0 := by rw [st_ne (by decide), st_same]
  refine jj_aload_n h d_T_start_0 rfl ⟨_, rfl⟩ ?_
  refine jj_g_T_source h  fl_T_14 d_T_start_1 ?_
  try simp only [e1]
  refine jj_callV h (cB_empty ⟨by decide, by decide⟩) cv_T_65 (ro_of he (by first | decide | omega) (by decide)) rfl rfl (by unfold mt_N; omega) (ce_B (by omega)) rfl rfl (Nat.le_of_ble_eq_true rfl) d_T_start_4 (fun v m4 hv => ?_)
  obtain ⟨rfl, rfl⟩ := hv
  refine jj_aload_n h d_T_start_7 rfl ⟨_, rfl⟩ ?_
  refine jj_g_T_source h  fl_T_14 d_T_start_8 ?_
  try simp only [e1]
  refine jj_aload_n h d_T_start_11 rfl ⟨_, rfl⟩ ?_
  refine jj_iconst h d_T_start_12 ?_
  refine jj_aload_n h d_T_start_13 rfl ⟨_, rfl⟩ ?_
  refine jj_g_B_size h (by omega) fl_T_68 d_T_start_14 ?_
  try simp only [e1]
  refine jj_callV h (cB_putRange (r := 3) ⟨by decide, by decide⟩ (hw.mov e1 e9) (by decide) (by rw [e3]; exact Int.le_refl _) (by rw [e3, hl3]; decide) (by decide) hs0 (by rw [e1]; exact Int.le_refl _)) cv_T_71 (ro_of he (by first | decide | omega) (by decide)) rfl rfl (by unfold mt_N; omega) (ce_B (by omega)) rfl rfl (Nat.le_of_ble_eq_true rfl) d_T_start_17 (fun v m17 hv => ?_)
  obtain ⟨rfl, hv⟩ := hv
  rw [show st_ (st_ mem 3 1 0) 3 2 0 (1 + 8) = mem 9 from e9] at hv
  refine jj_aload_n h d_T_start_20 rfl ⟨_, rfl⟩ ?_
  refine jj_g_T_values h  fl_T_20 d_T_start_21 ?_
  try simp only [e1]
  refine jj_callV h (cB_empty ⟨by decide, by decide⟩) cv_T_65 (ro_of he (by first | decide | omega) (by decide)) rfl rfl (by unfold mt_N; omega) (ce_B (by omega)) rfl rfl (Nat.le_of_ble_eq_true rfl) d_T_start_24 (fun v m24 hv => ?_)
  obtain ⟨rfl, rfl⟩ := hv
  refine jj_aload_n h d_T_start_27 rfl ⟨_, rfl⟩ ?_
  refine jj_g_T_contents h  fl_T_23 d_T_start_28 ?_
  try simp only [e1]
  refine jj_callV h (cB_empty ⟨by decide, by decide⟩) cv_T_65 (ro_of he (by first | decide | omega) (by decide)) rfl rfl (by unfold mt_N; omega) (ce_B (by omega)) rfl rfl (Nat.le_of_ble_eq_true rfl) d_T_start_31 (fun v m31 hv => ?_)
  obtain ⟨rfl, rfl⟩ := hv
  refine jj_aload_n h d_T_start_34 rfl ⟨_, rfl⟩ ?_
  refine jj_g_T_boundaries h  fl_T_26 d_T_start_35 ?_
  try simp only [e1]
  refine jj_callV h (cB_empty ⟨by decide, by decide⟩) cv_T_65 (ro_of he (by first | decide | omega) (by decide)) rfl rfl (by unfold mt_N; omega) (ce_B (by omega)) rfl rfl (Nat.le_of_ble_eq_true rfl) d_T_start_38 (fun v m38 hv => ?_)
  obtain ⟨rfl, rfl⟩ := hv
  refine jj_aload_n h d_T_start_41 rfl ⟨_, rfl⟩ ?_
  refine jj_iconst h d_T_start_42 ?_
  refine jj_p_T_count h  fl_T_54 d_T_start_43 ?_
  refine jj_vret h he d_T_start_46 ?_
  exact fin _ _ hv rfl
theorem cX_read {G : mt_G} {l : Launch} {mem : mt_M} (hw : bw_ mem 1) (h7 : bw_ mem 7) : CT G l y_X_read c_X_read 1 (some .int) 18 [vr G 0] mem (fun v m' => ∃ f : Int → Int, (∀ i : Int, 0 ≤ i → i < mem 1 1 → f i = mem 9 i) ∧ v = some (vi (rd0 f (mem 1 1)).length) ∧ RC m' (rd0 f (mem 1 1)) ∧ ∀ r : Nat, (r ≤ 2 ∨ (8 ≤ r ∧ r ≤ 10) ∨ r = 16 ∨ (19 ≤ r ∧ r ≤ 21) ∨ (38 ≤ r ∧ r ≤ 53) ∨ 182 ≤ r) → m' r = mem r) := by
  have hl1 : ln_ (1 + 8) = 320 := rfl
  have hsz := hw.2.2.1
  have hs0 := hw.2.1
  refine CT.intro (by decide) rfl (Nat.le_of_ble_eq_true rfl) (fun X h he => ?_)
  refine jj_aload_n h d_X_read_0 rfl ⟨_, rfl⟩ ?_
  refine jj_g_X_tree h  fl_X_24 d_X_read_1 ?_
  try simp only [c17]
  refine jj_aload_n h d_X_read_4 rfl ⟨_, rfl⟩ ?_
  refine jj_g_X_message h  fl_X_14 d_X_read_5 ?_
  try simp only [c17]
  refine jj_callV h (cT_start hw h7) cv_X_47 (ro_of he (by first | decide | omega) (by decide)) rfl rfl (by decide) rfl rfl rfl (Nat.le_of_ble_eq_true rfl) d_X_read_8 (fun v m8 hv => ?_)
  obtain ⟨rfl, s1, s2, s3, s4⟩ := hv
  have e1 : m8 1 = mem 1 := s4 1 (by decide) (by decide) (by decide) (by decide) (by decide) (by decide)
  have hR := cT_readEntity (G := G) 4 X.2.1 m8 [] (0, mem 1 1, 1, -1) (by show (1 : Int) = 5 - ((4 : Nat) : Int); decide) (by decide) (by decide) s1 (Int.le_refl _) hs0 (by show mem 1 1 ≤ m8 3 1; omega) (by show (-1 : Int) ≤ -1; decide) (by show (-1 : Int) < ((0 : Nat) : Int); decide)
  rw [← rd0_T hs0 (by omega)] at hR
  refine jj_aload_n h d_X_read_11 rfl ⟨_, rfl⟩ ?_
  refine jj_g_X_tree h  fl_X_24 d_X_read_12 ?_
  try simp only [c17]
  refine jj_iconst h d_X_read_15 ?_
  refine jj_aload_n h d_X_read_16 rfl ⟨_, rfl⟩ ?_
  refine jj_g_X_message h  fl_X_14 d_X_read_17 ?_
  try simp only [c17]
  refine jj_g_B_size h (by omega) fl_X_37 d_X_read_20 ?_
  rw [e1]
  refine jj_iconst h d_X_read_23 ?_
  refine jj_iconst h d_X_read_24 ?_
  refine jj_callV h (hR) cv_X_51 (ro_of he (by first | decide | omega) (by decide)) rfl rfl (by decide) rfl rfl rfl (Nat.le_of_ble_eq_true rfl) d_X_read_25 (fun v m25 hv => ?_)
  obtain ⟨rfl, t1, t2⟩ := hv
  have c17 := t1.1.1
  refine jj_aload_n h d_X_read_28 rfl ⟨_, rfl⟩ ?_
  refine jj_g_X_tree h  fl_X_24 d_X_read_29 ?_
  try simp only [c17]
  refine jj_g_T_count h  fl_X_55 d_X_read_32 ?_
  try simp only [c17]
  refine jj_iret h he d_X_read_35 ?_
  refine ⟨m8 11, s3, rfl, t1.1, fun r hr => ?_⟩
  rw [t2 r (by omega), s4 r (by omega) (by omega) (by omega) (by omega) (by omega) (by omega)]
