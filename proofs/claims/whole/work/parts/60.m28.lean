/-! The reference writes: delimiters, the next part, opening an entity. -/
theorem RM.mv {m m' : mt_M} {L : List mt_E} (h : RM m L) (hT : m' 182 9 = m 182 9) (hE : m' 182 5 = m 182 5) (hX : m' 187 = m 187) (hD : m' 185 = m 185) (hF : m' 186 = m 186) : RM m' L :=
  ⟨h.1.mov ⟨by rw [hT]; exact Int.le_refl _, fun _ _ => by rw [hX]⟩ (fun _ _ _ => by rw [hF]) (fun _ _ _ => by rw [hD]), by rw [hE]; exact h.2.1, h.2.2.1, by rw [hT]; exact h.2.2.2.1, by rw [hT]; exact h.2.2.2.2.1, by rw [hX, hT]; exact h.2.2.2.2.2⟩
theorem RM.wc {m m' : mt_M} {L : List mt_E} {A : List Int} (h : RM m L) (hw : wc_ m A m') : RM m' L :=
  h.mv (hw.M (by decide) (by decide)) (hw.M (by decide) (by decide)) (hw.row (by decide) (by decide)) (hw.row (by decide) (by decide)) (hw.row (by decide) (by decide))
def mk9 (E : mt_E) (z : Int) : List Int := [45] ++ [45] ++ E.2.2.2 ++ (if z = 1 then [45] ++ [45] else []) ++ [13, 10]
theorem cM_putDelimiter {G : mt_G} {l : Launch} {mem : mt_M} {L : List mt_E} {e z : Int} (h9 : RM mem L) (e0 : 0 ≤ e) (e1 : e < L.length) (hk : (gE L e).1 0 = 1) (hz : z = 0 ∨ z = 1) (h0 : 0 ≤ mem 182 17) (h1 : mem 182 17 ≤ 1700000000) : CT G l y_M_putDelimiter c_M_putDelimiter 3 none 3 [vr G 182, vi e, vi z] mem (fun v m' => v = none ∧ wc_ mem (mk9 (gE L e) z) m' ∧ m' 182 17 ≤ mem 182 17 + 2000) := by
  have hl := h9.2.2.1
  have hR := h9.at e0 e1
  obtain ⟨c1, c2, c3, c4⟩ := hR.2.2.2 hk
  have t1 := h9.2.2.2.2.1
  refine CT.intro (by decide) rfl (Nat.le_of_ble_eq_true rfl) (fun X h he => ?_)
  unfold mk9 at he
  have hPd : ∀ (m : mt_M) (B : List Int), pL m B 185 = m 185 := fun m B => pL_row (by decide) (by decide) B m
  have hPt : ∀ (m : mt_M) (B : List Int), pL m B 187 = m 187 := fun m B => pL_row (by decide) (by decide) B m
  rw [c2] at c3 c4
  generalize (gE L e).2.2.2 = Q at *
  rcases hz with rfl | rfl
  · refine jj_aload_n h d_M_putDelimiter_0 rfl ⟨_, rfl⟩ ?_
    refine jj_bipush h d_M_putDelimiter_1 (by decide) ?_
    refine jj_callV h (cM_put (by omega) (by omega)) cv_M_238 (ro_of he (by decide) (by decide)) rfl rfl (by decide) rfl rfl rfl (Nat.le_of_ble_eq_true rfl) d_M_putDelimiter_3 (fun v m3 hv => ?_)
    obtain ⟨rfl, rfl⟩ := hv
    refine jj_aload_n h d_M_putDelimiter_6 rfl ⟨_, rfl⟩ ?_
    refine jj_bipush h d_M_putDelimiter_7 (by decide) ?_
    refine jj_callV h (cM_put (by simp only [pL_out, List.length_cons, List.length_nil]; omega) (by simp only [pL_out, List.length_cons, List.length_nil]; omega)) cv_M_238 (ro_of he (by decide) (by decide)) rfl rfl (by decide) rfl rfl rfl (Nat.le_of_ble_eq_true rfl) d_M_putDelimiter_9 (fun v m9 hv => ?_)
    obtain ⟨rfl, rfl⟩ := hv
    refine jj_aload_n h d_M_putDelimiter_12 rfl ⟨_, rfl⟩ ?_
    refine jj_aload_n h d_M_putDelimiter_13 rfl ⟨_, rfl⟩ ?_
    refine jj_iload_n h d_M_putDelimiter_14 rfl ?_
    refine jj_bipush h d_M_putDelimiter_15 (by decide) ?_
    refine jj_callV h (cM_of (by omega) (by omega)) cv_M_59 (ro_of he (by decide) (by decide)) rfl rfl (by decide) rfl rfl rfl (Nat.le_of_ble_eq_true rfl) d_M_putDelimiter_17 (fun v m17 hv => ?_)
    obtain ⟨rfl, rfl⟩ := hv
    rw [hPd, hPd]
    refine jj_aload_n h d_M_putDelimiter_20 rfl ⟨_, rfl⟩ ?_
    refine jj_iload_n h d_M_putDelimiter_21 rfl ?_
    refine jj_bipush h d_M_putDelimiter_22 (by decide) ?_
    refine jj_callV h (cM_of (by omega) (by omega)) cv_M_59 (ro_of he (by decide) (by decide)) rfl rfl (by decide) rfl rfl rfl (Nat.le_of_ble_eq_true rfl) d_M_putDelimiter_24 (fun v m24 hv => ?_)
    obtain ⟨rfl, rfl⟩ := hv
    rw [hPd, hPd, c2]
    refine jj_callV h (cM_putText (by simp only [pL_out, List.length_cons, List.length_nil]; omega) (by simp only [pL_out, List.length_cons, List.length_nil]; omega) (by omega) (by omega) (by omega)) cv_M_257 (ro_of he (by decide) (by decide)) rfl rfl (by decide) rfl rfl rfl (Nat.le_of_ble_eq_true rfl) d_M_putDelimiter_27 (fun v m27 hv => ?_)
    obtain ⟨rfl, rfl⟩ := hv
    rw [hPt, hPt, c4]
    refine jj_iload_n h d_M_putDelimiter_30 rfl ?_
    refine jj_if_eq h 46 d_M_putDelimiter_31 (by decide) ⟨by decide, by decide⟩ (fun _ => ?_) (fun q31 => absurd (rfl) q31)
    refine jj_aload_n h d_M_putDelimiter_46 rfl ⟨_, rfl⟩ ?_
    refine jj_callV h (cM_putLine (by simp only [pL_out, List.length_cons, List.length_nil]; omega) (by simp only [pL_out, List.length_cons, List.length_nil]; omega)) cv_M_247 (ro_of he (by decide) (by decide)) rfl rfl (by decide) rfl rfl rfl (Nat.le_of_ble_eq_true rfl) d_M_putDelimiter_47 (fun v m47 hv => ?_)
    obtain ⟨rfl, rfl⟩ := hv
    refine jj_vret h he d_M_putDelimiter_50 ?_
    rw [if_neg (by decide), List.append_nil]
    exact ⟨rfl, ((((wc_.nil mem).put [45]).put [45]).put Q).line, by rw [st_ne (by decide)]; simp only [pL_out, List.length_cons, List.length_nil]; omega⟩
  · refine jj_aload_n h d_M_putDelimiter_0 rfl ⟨_, rfl⟩ ?_
    refine jj_bipush h d_M_putDelimiter_1 (by decide) ?_
    refine jj_callV h (cM_put (by omega) (by omega)) cv_M_238 (ro_of he (by decide) (by decide)) rfl rfl (by decide) rfl rfl rfl (Nat.le_of_ble_eq_true rfl) d_M_putDelimiter_3 (fun v m3 hv => ?_)
    obtain ⟨rfl, rfl⟩ := hv
    refine jj_aload_n h d_M_putDelimiter_6 rfl ⟨_, rfl⟩ ?_
    refine jj_bipush h d_M_putDelimiter_7 (by decide) ?_
    refine jj_callV h (cM_put (by simp only [pL_out, List.length_cons, List.length_nil]; omega) (by simp only [pL_out, List.length_cons, List.length_nil]; omega)) cv_M_238 (ro_of he (by decide) (by decide)) rfl rfl (by decide) rfl rfl rfl (Nat.le_of_ble_eq_true rfl) d_M_putDelimiter_9 (fun v m9 hv => ?_)
    obtain ⟨rfl, rfl⟩ := hv
    refine jj_aload_n h d_M_putDelimiter_12 rfl ⟨_, rfl⟩ ?_
    refine jj_aload_n h d_M_putDelimiter_13 rfl ⟨_, rfl⟩ ?_
    refine jj_iload_n h d_M_putDelimiter_14 rfl ?_
    refine jj_bipush h d_M_putDelimiter_15 (by decide) ?_
    refine jj_callV h (cM_of (by omega) (by omega)) cv_M_59 (ro_of he (by decide) (by decide)) rfl rfl (by decide) rfl rfl rfl (Nat.le_of_ble_eq_true rfl) d_M_putDelimiter_17 (fun v m17 hv => ?_)
    obtain ⟨rfl, rfl⟩ := hv
    rw [hPd, hPd]
    refine jj_aload_n h d_M_putDelimiter_20 rfl ⟨_, rfl⟩ ?_
    refine jj_iload_n h d_M_putDelimiter_21 rfl ?_
    refine jj_bipush h d_M_putDelimiter_22 (by decide) ?_
    refine jj_callV h (cM_of (by omega) (by omega)) cv_M_59 (ro_of he (by decide) (by decide)) rfl rfl (by decide) rfl rfl rfl (Nat.le_of_ble_eq_true rfl) d_M_putDelimiter_24 (fun v m24 hv => ?_)
    obtain ⟨rfl, rfl⟩ := hv
    rw [hPd, hPd, c2]
    refine jj_callV h (cM_putText (by simp only [pL_out, List.length_cons, List.length_nil]; omega) (by simp only [pL_out, List.length_cons, List.length_nil]; omega) (by omega) (by omega) (by omega)) cv_M_257 (ro_of he (by decide) (by decide)) rfl rfl (by decide) rfl rfl rfl (Nat.le_of_ble_eq_true rfl) d_M_putDelimiter_27 (fun v m27 hv => ?_)
    obtain ⟨rfl, rfl⟩ := hv
    rw [hPt, hPt, c4]
    refine jj_iload_n h d_M_putDelimiter_30 rfl ?_
    refine jj_if_eq h 46 d_M_putDelimiter_31 (by decide) ⟨by decide, by decide⟩ (fun q31 => absurd q31 ((by decide))) (fun _ => ?_)
    refine jj_aload_n h d_M_putDelimiter_34 rfl ⟨_, rfl⟩ ?_
    refine jj_bipush h d_M_putDelimiter_35 (by decide) ?_
    refine jj_callV h (cM_put (by simp only [pL_out, List.length_cons, List.length_nil]; omega) (by simp only [pL_out, List.length_cons, List.length_nil]; omega)) cv_M_238 (ro_of he (by decide) (by decide)) rfl rfl (by decide) rfl rfl rfl (Nat.le_of_ble_eq_true rfl) d_M_putDelimiter_37 (fun v m37 hv => ?_)
    obtain ⟨rfl, rfl⟩ := hv
    refine jj_aload_n h d_M_putDelimiter_40 rfl ⟨_, rfl⟩ ?_
    refine jj_bipush h d_M_putDelimiter_41 (by decide) ?_
    refine jj_callV h (cM_put (by simp only [pL_out, List.length_cons, List.length_nil]; omega) (by simp only [pL_out, List.length_cons, List.length_nil]; omega)) cv_M_238 (ro_of he (by decide) (by decide)) rfl rfl (by decide) rfl rfl rfl (Nat.le_of_ble_eq_true rfl) d_M_putDelimiter_43 (fun v m43 hv => ?_)
    obtain ⟨rfl, rfl⟩ := hv
    refine jj_aload_n h d_M_putDelimiter_46 rfl ⟨_, rfl⟩ ?_
    refine jj_callV h (cM_putLine (by simp only [pL_out, List.length_cons, List.length_nil]; omega) (by simp only [pL_out, List.length_cons, List.length_nil]; omega)) cv_M_247 (ro_of he (by decide) (by decide)) rfl rfl (by decide) rfl rfl rfl (Nat.le_of_ble_eq_true rfl) d_M_putDelimiter_47 (fun v m47 hv => ?_)
    obtain ⟨rfl, rfl⟩ := hv
    refine jj_vret h he d_M_putDelimiter_50 ?_
    rw [if_pos rfl, ← List.append_assoc]
    exact ⟨rfl, ((((((wc_.nil mem).put [45]).put [45]).put Q).put [45]).put [45]).line, by rw [st_ne (by decide)]; simp only [pL_out, List.length_cons, List.length_nil]; omega⟩
/-- the first part of e from k on, j to look at -/
def pf_ (L : List mt_E) (e : Int) : Nat → Int → Int
  | 0, _ => -1
  | j + 1, k => if (gE L k).1 2 = e then k else pf_ L e j (k + 1)
theorem pf_r {L : List mt_E} {e : Int} : ∀ (j : Nat) (k : Int), 0 ≤ pf_ L e j k → k ≤ pf_ L e j k ∧ pf_ L e j k < k + j ∧ (gE L (pf_ L e j k)).1 2 = e
  | 0, k, h => by exact absurd h (by show ¬ (0 : Int) ≤ -1; decide)
  | j + 1, k, h => by
    by_cases q : (gE L k).1 2 = e
    · have e1 : pf_ L e (j + 1) k = k := if_pos q
      rw [e1] at h ⊢
      exact ⟨Int.le_refl _, by omega, q⟩
    · have e1 : pf_ L e (j + 1) k = pf_ L e j (k + 1) := if_neg q
      rw [e1] at h ⊢
      obtain ⟨a, b, c⟩ := pf_r j (k + 1) h
      exact ⟨by omega, by omega, c⟩
theorem pf_n {L : List mt_E} {e : Int} : ∀ (j : Nat) (k : Int), 0 ≤ k → -1 ≤ pf_ L e j k
  | 0, k, h => by show (-1 : Int) ≤ -1; decide
  | j + 1, k, h => by
    by_cases q : (gE L k).1 2 = e
    · have e1 : pf_ L e (j + 1) k = k := if_pos q
      rw [e1]; omega
    · have e1 : pf_ L e (j + 1) k = pf_ L e j (k + 1) := if_neg q
      rw [e1]; exact pf_n j (k + 1) (by omega)
theorem cM_partOf {G : mt_G} {l : Launch} {mem : mt_M} {L : List mt_E} {e nx V : Int} (h9 : RM mem L) (hkb : kb_ L) (he : r32 e) (n0 : 0 ≤ nx) (n1 : nx ≤ 16) (hV : pf_ L e (L.length - nx).toNat nx = V) : CT G l y_M_partOf c_M_partOf 4 (some .int) 2 [vr G 182, vi e, vi nx] mem (fun v m' => v = some (vi V) ∧ mem = m') := by
  have hl := h9.2.2.1
  have hn := h9.2.1
  have her := he
  refine CT.intro (by decide) rfl (Nat.le_of_ble_eq_true rfl) (fun X h he => ?_)
  have loop : ∀ (j : Nat) (k : Int), (L.length - k).toNat = j → 0 ≤ k → k ≤ 16 → pf_ L e j k = V → JJ G X 0 0 mem 2 [some (vr G 182), some (vi e), some (vi nx), some (vi k)] [] := by
    intro j
    induction j with
    | zero =>
      intro k hj k0 k1 hv9
      have hv1 : -1 = V := hv9
      refine jj_iload_n h d_M_partOf_2 rfl ?_
      refine jj_aload_n h d_M_partOf_3 rfl ⟨_, rfl⟩ ?_
      refine jj_g_M_entities h  fl_M_196 d_M_partOf_4 ?_
      try simp only [hn]
      refine jj_icmp_ge h 28 d_M_partOf_7 (by decide) ⟨by omega, by omega⟩ ⟨by omega, by omega⟩ (fun _ => ?_) (fun q7 => absurd (by omega) q7)
      refine jj_iconst h d_M_partOf_28 ?_
      refine jj_iret h he d_M_partOf_29 ?_
      exact ⟨by rw [← hv1], rfl⟩
    | succ j ih =>
      intro k hj k0 k1 hv9
      have hR := h9.at k0 (by omega)
      have hp := hR.1 2 (by decide) (by decide)
      have hkk := hkb k k0 (by omega)
      refine jj_iload_n h d_M_partOf_2 rfl ?_
      refine jj_aload_n h d_M_partOf_3 rfl ⟨_, rfl⟩ ?_
      refine jj_g_M_entities h  fl_M_196 d_M_partOf_4 ?_
      try simp only [hn]
      refine jj_icmp_ge h 28 d_M_partOf_7 (by decide) ⟨by omega, by omega⟩ ⟨by omega, by omega⟩ (fun q7 => absurd q7 (by omega)) (fun _ => ?_)
      refine jj_aload_n h d_M_partOf_10 rfl ⟨_, rfl⟩ ?_
      refine jj_iload_n h d_M_partOf_11 rfl ?_
      refine jj_iconst h d_M_partOf_12 ?_
      refine jj_callV h (cM_of (by omega) (by omega)) cv_M_59 (ro_of he (by decide) (by decide)) rfl rfl (by decide) rfl rfl rfl (Nat.le_of_ble_eq_true rfl) d_M_partOf_13 (fun v m13 hv => ?_)
      obtain ⟨rfl, rfl⟩ := hv
      rw [hp]
      refine jj_iload_n h d_M_partOf_16 rfl ?_
      refine jj_icmp_ne h 22 d_M_partOf_17 (by decide) ⟨by omega, by omega⟩ her (fun q17 => ?_) (fun q17 => ?_)
      · refine jj_iinc h d_M_partOf_22 rfl rfl ?_
        refine jj_goto h 2 d_M_partOf_25 (by decide) ?_
        exact ih (k + 1) (by omega) (by omega) (by omega) (by rw [← hv9]; exact (if_neg (by omega)).symm)
      · refine jj_iload_n h d_M_partOf_20 rfl ?_
        refine jj_iret h he d_M_partOf_21 ?_
        have hv1 : k = V := by rw [← hv9]; exact (if_pos (by omega)).symm
        exact ⟨by rw [← hv1], rfl⟩
  refine jj_iload_n h d_M_partOf_0 rfl ?_
  refine jj_istore_n h d_M_partOf_1 (Nat.le_of_ble_eq_true rfl) rfl ?_
  exact loop _ nx rfl n0 n1 hV
theorem cM_opens {G : mt_G} {l : Launch} {mem : mt_M} {L : List mt_E} {e o : Int} (h9 : RM mem L) (hkb : kb_ L) (e0 : 0 ≤ e) (e1 : e < L.length) (h0 : 0 ≤ mem 182 17) (h1 : mem 182 17 ≤ 1700000000) (ho : mem 182 22 = o) (o0 : 0 ≤ o) (o1 : o ≤ 5) : CT G l y_M_opens c_M_opens 2 none 5 [vr G 182, vi e] mem (fun v m' => v = none ∧ ∃ m1, wc_ mem (hd_ (gE L e)) m1 ∧ m1 182 17 ≤ mem 182 17 + 50000 ∧ st_ (st_ (st_ m1 192 o e) 193 o (e + 1)) 182 22 (o + 1) = m') := by
  have hl := h9.2.2.1
  refine CT.intro (by decide) rfl (Nat.le_of_ble_eq_true rfl) (fun X h he => ?_)
  have tail : ∀ m1, wc_ mem (hd_ (gE L e)) m1 → m1 182 17 ≤ mem 182 17 + 50000 → JJ G X 0 0 m1 5 [some (vr G 182), some (vi e)] [] := by
    intro m1 hm hlen
    have hO : m1 182 22 = o := by rw [hm.M (by decide) (by decide)]; exact ho
    have hO1 : ∀ z v, st_ m1 192 z v 182 22 = o := fun z v => by rw [st_row (by decide)]; exact hO
    have hO2 : ∀ z v z2 v2, st_ (st_ m1 192 z v) 193 z2 v2 182 22 = o := fun z v z2 v2 => by rw [st_row (by decide)]; exact hO1 z v
    refine jj_aload_n h d_M_opens_5 rfl ⟨_, rfl⟩ ?_
    refine jj_g_M_openEntity h  fl_M_37 d_M_opens_6 ?_
    try simp only [hO, hO1, hO2]
    refine jj_aload_n h d_M_opens_9 rfl ⟨_, rfl⟩ ?_
    refine jj_g_M_open h  fl_M_269 d_M_opens_10 ?_
    try simp only [hO, hO1, hO2]
    refine jj_iload_n h d_M_opens_13 rfl ?_
    refine jj_iastore (N := 6) h (by decide) (fun _ => rfl) (by decide) (by omega) (by omega) d_M_opens_14 ?_
    refine jj_aload_n h d_M_opens_15 rfl ⟨_, rfl⟩ ?_
    refine jj_g_M_openNext h  fl_M_40 d_M_opens_16 ?_
    try simp only [hO, hO1, hO2]
    refine jj_aload_n h d_M_opens_19 rfl ⟨_, rfl⟩ ?_
    refine jj_g_M_open h  fl_M_269 d_M_opens_20 ?_
    try simp only [hO, hO1, hO2]
    refine jj_iload_n h d_M_opens_23 rfl ?_
    refine jj_iconst h d_M_opens_24 ?_
    refine jj_iadd h d_M_opens_25 ?_
    refine jj_iastore (N := 6) h (by decide) (fun _ => rfl) (by decide) (by omega) (by omega) d_M_opens_26 ?_
    refine jj_aload_n h d_M_opens_27 rfl ⟨_, rfl⟩ ?_
    refine jj_dup h d_M_opens_28 rfl ?_
    refine jj_g_M_open h  fl_M_269 d_M_opens_29 ?_
    try simp only [hO, hO1, hO2]
    refine jj_iconst h d_M_opens_32 ?_
    refine jj_iadd h d_M_opens_33 ?_
    refine jj_p_M_open h  fl_M_269 d_M_opens_34 ?_
    refine jj_vret h he d_M_opens_37 ?_
    exact ⟨rfl, m1, hm, hlen, rfl⟩
  refine jj_aload_n h d_M_opens_0 rfl ⟨_, rfl⟩ ?_
  refine jj_iload_n h d_M_opens_1 rfl ?_
  refine jj_callV h (cM_putHead h9 hkb e0 e1 h0 h1) cv_M_266 (ro_of he (by decide) (by decide)) rfl rfl (by decide) rfl rfl rfl (Nat.le_of_ble_eq_true rfl) d_M_opens_2 (fun v m2 hv => ?_)
  obtain ⟨rfl, hv, hvl⟩ := hv
  exact tail _ hv hvl
