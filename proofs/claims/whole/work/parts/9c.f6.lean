/-! The class: again; write, where all has room. -/
theorem bp_keep {m : mt_M} {r : Nat} {c : Int} (h : m r 2 = 1) : bp_ m r c r 2 = 1 := by
  unfold bp_; split
  · rw [st_ne (Or.inr (by decide)), st_ne (Or.inl (by omega))]; exact h
  · rw [st_same]
theorem bL_keep {r : Nat} : ∀ (A : List Int) (m : mt_M), m r 2 = 1 → bL_ m r A r 2 = 1
  | [], _, h => h
  | a :: t, m, h => bL_keep t (bp_ m r a) (bp_keep h)
theorem bL_over {r : Nat} : ∀ (A : List Int) (m : mt_M), 0 ≤ m r 1 → m r 1 ≤ ln_ (r + 8) → (ln_ (r + 8) : Int) < m r 1 + A.length → bL_ m r A r 2 = 1
  | [], m, h0, h1, h2 => by
    have : (ln_ (r + 8) : Int) < m r 1 + ((0 : Nat) : Int) := h2
    omega
  | a :: t, m, h0, h1, h2 => by
    rw [List.length_cons] at h2
    by_cases h : m r 1 < ln_ (r + 8)
    · have e0 : bp_ m r a = st_ (st_ m (r + 8) (m r 1) a) r 1 (m r 1 + 1) := if_pos h
      have e1 : bp_ m r a r 1 = m r 1 + 1 := by rw [e0, st_same]
      exact bL_over t (bp_ m r a) (by omega) (by omega) (by omega)
    · have e0 : bp_ m r a = st_ m r 2 1 := if_neg h
      exact bL_keep t (bp_ m r a) (by rw [e0, st_same])
theorem cX_again {G : mt_G} {l : Launch} {mem : mt_M} (h2 : bw_ mem 2) : CT G l y_X_again c_X_again 1 (some .int) 3 [vr G 0] mem (fun v m' => v = some (vi (min (mem 2 1) 320)) ∧ m' 1 1 = min (mem 2 1) 320 ∧ slc (m' 9) 0 (min (mem 2 1) 320) = slc (mem 10) 0 (min (mem 2 1) 320) ∧ bw_ m' 1 ∧ ∀ r : Nat, r ≠ 1 → r ≠ 9 → m' r = mem r) := by
  have hl1 : ln_ (1 + 8) = 320 := rfl
  have hl2 : ln_ (2 + 8) = 700 := rfl
  have hsz := h2.2.2.1
  have hs0 := h2.2.1
  refine CT.intro (by decide) rfl (Nat.le_of_ble_eq_true rfl) (fun X h he => ?_)
  generalize hn : min (mem 2 1) 320 = n at *
  have hn0 : 0 ≤ n ∧ n ≤ 320 ∧ n ≤ mem 2 1 := by omega
  have e2 : st_ (st_ mem 1 1 0) 1 2 0 2 = mem 2 := by rw [st_row (by decide), st_row (by decide)]
  have e10 : st_ (st_ mem 1 1 0) 1 2 0 10 = mem 10 := by rw [st_row (by decide), st_row (by decide)]
  have e1 : st_ (st_ mem 1 1 0) 1 2 0 1 1 = 0 := by rw [st_ne (by decide), st_same]
  have hA : ((slc (mem 10) 0 n).length : Int) = n := by rw [slc_lenI hn0.1]; omega
  have hAb : ∀ c ∈ slc (mem 10) 0 n, 0 ≤ c ∧ c ≤ 255 := slc_by (fun i i0 i1 => h2.2.2.2 i i0 (by omega))
  have wz : bw_ (st_ (st_ mem 1 1 0) 1 2 0) 1 := ⟨⟨by decide, by decide⟩, by rw [e1]; exact Int.le_refl _, by rw [e1, hl1]; decide, fun i i0 i1 => by rw [e1] at i1; omega⟩
  obtain ⟨f1, f2, f3, f4⟩ := bL_fit (r := 1) (slc (mem 10) 0 n) (st_ (st_ mem 1 1 0) 1 2 0) (by rw [e1]; exact Int.le_refl _) (by rw [e1, hl1]; omega)
  have w1 := wz.bL hAb (by rw [e1, hl1]; omega)
  rw [e1, Int.zero_add, hA] at f1
  rw [e1, Int.zero_add, hA] at f4
  generalize hM : bL_ (st_ (st_ mem 1 1 0) 1 2 0) 1 (slc (mem 10) 0 n) = M at *
  have rr : ∀ r : Nat, r ≠ 1 → r ≠ 9 → M r = mem r := fun r a b => by rw [← hM, bL_row a b, st_row a, st_row a]
  refine jj_aload_n h d_X_again_0 rfl ⟨_, rfl⟩ ?_
  refine jj_g_X_message h  fl_X_14 d_X_again_1 ?_
  try simp only [f1]
  refine jj_callV h (cB_empty ⟨by decide, by decide⟩) cv_X_44 (ro_of he (by first | decide | omega) (by decide)) rfl rfl (by unfold mt_N; omega) (ce_B (by omega)) rfl rfl (Nat.le_of_ble_eq_true rfl) d_X_again_4 (fun v m4 hv => ?_)
  obtain ⟨rfl, rfl⟩ := hv
  refine jj_aload_n h d_X_again_7 rfl ⟨_, rfl⟩ ?_
  refine jj_g_X_message h  fl_X_14 d_X_again_8 ?_
  try simp only [f1]
  refine jj_aload_n h d_X_again_11 rfl ⟨_, rfl⟩ ?_
  refine jj_g_X_latest h  fl_X_18 d_X_again_12 ?_
  try simp only [f1]
  refine jj_iconst h d_X_again_15 ?_
  refine jj_aload_n h d_X_again_16 rfl ⟨_, rfl⟩ ?_
  refine jj_g_X_latest h  fl_X_18 d_X_again_17 ?_
  try simp only [f1]
  refine jj_g_B_size h (by omega) fl_X_37 d_X_again_20 ?_
  rw [e2]
  refine jj_sipush h d_X_again_23 (by decide) ?_
  refine jj_mn h he ⟨by omega, by omega⟩ ⟨by decide, by decide⟩ (by omega) rfl cv_X_175 (Nat.le_of_ble_eq_true rfl) d_X_again_26 ?_
  rw [hn]
  refine jj_callV h (cB_putRange (r := 1) ⟨by decide, by decide⟩ (h2.mov e2 e10) (by decide) (by rw [e1]; exact Int.le_refl _) (by rw [e1, hl1]; decide) (by decide) hn0.1 (by rw [e2]; exact hn0.2.2)) cv_X_171 (ro_of he (by first | decide | omega) (by decide)) rfl rfl (by unfold mt_N; omega) (ce_B (by omega)) rfl rfl (Nat.le_of_ble_eq_true rfl) d_X_again_29 (fun v m29 hv => ?_)
  obtain ⟨rfl, hv⟩ := hv
  rw [show st_ (st_ mem 1 1 0) 1 2 0 (2 + 8) = mem 10 from e10, hM] at hv
  subst hv
  refine jj_aload_n h d_X_again_32 rfl ⟨_, rfl⟩ ?_
  refine jj_g_X_message h  fl_X_14 d_X_again_33 ?_
  try simp only [f1]
  refine jj_g_B_size h (by omega) fl_X_37 d_X_again_36 ?_
  try simp only [f1]
  refine jj_iret h he d_X_again_39 ?_
  exact ⟨rfl, f1, f4, w1, rr⟩
/-- the draft, once all is in it -/
theorem draft_ok {mem : mt_M} {A : List Int} (hA : A.length ≤ 700) : bL_ (st_ (st_ mem 8 1 0) 8 2 0) 8 A 8 1 = A.length ∧ bL_ (st_ (st_ mem 8 1 0) 8 2 0) 8 A 8 2 = 0 ∧ slc (bL_ (st_ (st_ mem 8 1 0) 8 2 0) 8 A 16) 0 A.length = A := by
  have e1 : st_ (st_ mem 8 1 0) 8 2 0 8 1 = 0 := by rw [st_ne (by decide), st_same]
  have e2 : st_ (st_ mem 8 1 0) 8 2 0 8 2 = 0 := st_same
  have hl8 : ln_ (8 + 8) = 700 := rfl
  obtain ⟨f1, f2, f3, f4⟩ := bL_fit (r := 8) A (st_ (st_ mem 8 1 0) 8 2 0) (by rw [e1]; exact Int.le_refl _) (by rw [e1, hl8]; omega)
  rw [e1, Int.zero_add] at f1 f4
  rw [e2] at f2
  exact ⟨f1, f2, f4⟩
theorem draft_no {mem : mt_M} {A : List Int} (hA : 700 < A.length) : bL_ (st_ (st_ mem 8 1 0) 8 2 0) 8 A 8 2 = 1 := by
  have e1 : st_ (st_ mem 8 1 0) 8 2 0 8 1 = 0 := by rw [st_ne (by decide), st_same]
  have hl8 : ln_ (8 + 8) = 700 := rfl
  exact bL_over A _ (by rw [e1]; exact Int.le_refl _) (by rw [e1, hl8]; decide) (by rw [e1, hl8]; omega)
