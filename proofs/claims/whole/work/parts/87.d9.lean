/-! The class: the contents of a leaf. -/
theorem cD_decode {G : mt_G} {l : Launch} {mem : mt_M} {N : Nat} {b e en : Int} (hN : N < 16) (hw : bw_ mem 3) (h5 : bw_ mem 5) (hb : mem (22 + N) 6 = b) (hee : mem (22 + N) 7 = e) (hen : mem (22 + N) 3 = en) (hen2 : 0 ≤ en ∧ en ≤ 2) (p0 : 0 ≤ b) (p1 : b ≤ e) (e1 : e ≤ mem 3 1) (hf : mem 5 1 + (e - b) ≤ 320) : CT G l y_D_decode c_D_decode 2 none 7 [vr G 19, vr G (22 + N)] mem (fun v m' => v = none ∧ st_ (bL_ (st_ mem (22 + N) 8 (mem 5 1)) 5 (dec_ en (slc (mem 11) b e))) (22 + N) 9 (dec_ en (slc (mem 11) b e)).length = m' ∧ ((dec_ en (slc (mem 11) b e)).length : Int) ≤ e - b) := by
  have hsz := hw.2.2.1
  have hl9 : ln_ (3 + 8) = 320 := rfl
  have hl5 : ln_ (5 + 8) = 320 := rfl
  have h50 := h5.2.1
  refine CT.intro (by decide) rfl (Nat.le_of_ble_eq_true rfl) (fun X h he => ?_)
  generalize hD : dec_ en (slc (mem 11) b e) = D at *
  generalize hm1 : st_ mem (22 + N) 8 (mem 5 1) = m1 at *
  have g0 : ∀ r : Nat, r ≠ 22 + N → m1 r = mem r := fun r hr => by rw [← hm1, st_row hr]
  have gk : ∀ z : Int, z ≠ 8 → m1 (22 + N) z = mem (22 + N) z := fun z hz => by rw [← hm1, st_ne (Or.inr hz)]
  have g8 : m1 (22 + N) 8 = mem 5 1 := by rw [← hm1, st_same]
  have g3 := g0 3 (by omega)
  have g5 := g0 5 (by omega)
  have g11 := g0 11 (by omega)
  have g13 := g0 13 (by omega)
  have k3 : m1 (22 + N) 3 = en := by rw [gk 3 (by decide), hen]
  have k6 : m1 (22 + N) 6 = b := by rw [gk 6 (by decide), hb]
  have k7 : m1 (22 + N) 7 = e := by rw [gk 7 (by decide), hee]
  have hw1 : bw_ m1 3 := hw.mov g3 g11
  have h51 : bw_ m1 5 := h5.mov g5 g13
  have tail : ∀ m2 : mt_M, bL_ m1 5 D = m2 → (D.length : Int) ≤ e - b → JJ G X 0 0 m2 76 [some (vr G 19), some (vr G (22 + N))] [] := by
    intro m2 t1 t2
    subst t1
    obtain ⟨f1, f2, f3, f4⟩ := bL_fit (r := 5) D m1 (by rw [g5]; exact h50) (by rw [hl5, g5]; omega)
    have rk : bL_ m1 5 D (22 + N) = m1 (22 + N) := bL_row (by omega) (by omega) _ _
    have s1 : bL_ m1 5 D 5 1 = mem 5 1 + D.length := by rw [f1, g5]
    have s2 : bL_ m1 5 D (22 + N) 8 = mem 5 1 := by rw [rk, g8]
    refine jj_aload_n h d_D_decode_76 rfl ⟨_, rfl⟩ ?_
    refine jj_aload_n h d_D_decode_77 rfl ⟨_, rfl⟩ ?_
    refine jj_g_D_contents h  fl_D_15 d_D_decode_78 ?_
    try simp only [s1, s2]
    refine jj_g_B_size h (by omega) fl_D_18 d_D_decode_81 ?_
    try simp only [s1, s2]
    refine jj_aload_n h d_D_decode_84 rfl ⟨_, rfl⟩ ?_
    refine jj_g_E_contentBegin h (by omega) fl_D_24 d_D_decode_85 ?_
    try simp only [s1, s2]
    refine jj_isub h d_D_decode_88 ?_
    rw [show mem 5 1 + (D.length : Int) - mem 5 1 = D.length by omega]
    refine jj_p_E_contentSize h (by omega) fl_D_49 d_D_decode_89 ?_
    refine jj_vret h he d_D_decode_92 ?_
    exact ⟨rfl, rfl, t2⟩
  refine jj_aload_n h d_D_decode_0 rfl ⟨_, rfl⟩ ?_
  refine jj_aload_n h d_D_decode_1 rfl ⟨_, rfl⟩ ?_
  refine jj_g_D_contents h  fl_D_15 d_D_decode_2 ?_
  try simp only [k3, k6, k7]
  refine jj_g_B_size h (by omega) fl_D_18 d_D_decode_5 ?_
  try simp only [k3, k6, k7]
  refine jj_p_E_contentBegin h (by omega) fl_D_24 d_D_decode_8 ?_
  rw [hm1]
  refine jj_aload_n h d_D_decode_11 rfl ⟨_, rfl⟩ ?_
  refine jj_g_E_encoding h (by omega) fl_D_29 d_D_decode_12 ?_
  try simp only [k3, k6, k7]
  refine jj_iconst h d_D_decode_15 ?_
  refine jj_icmp_ne h 34 d_D_decode_16 (by decide) ⟨by omega, by omega⟩ ⟨by omega, by omega⟩ (fun q16 => ?_) (fun q16 => ?_)
  · refine jj_aload_n h d_D_decode_34 rfl ⟨_, rfl⟩ ?_
    refine jj_g_E_encoding h (by omega) fl_D_29 d_D_decode_35 ?_
    try simp only [k3, k6, k7]
    refine jj_iconst h d_D_decode_38 ?_
    refine jj_icmp_ne h 57 d_D_decode_39 (by decide) ⟨by omega, by omega⟩ ⟨by omega, by omega⟩ (fun q39 => ?_) (fun q39 => ?_)
    · refine jj_aload_n h d_D_decode_57 rfl ⟨_, rfl⟩ ?_
      refine jj_g_D_contents h  fl_D_15 d_D_decode_58 ?_
      try simp only [k3, k6, k7]
      refine jj_aload_n h d_D_decode_61 rfl ⟨_, rfl⟩ ?_
      refine jj_g_D_source h  fl_D_9 d_D_decode_62 ?_
      try simp only [k3, k6, k7]
      refine jj_aload_n h d_D_decode_65 rfl ⟨_, rfl⟩ ?_
      refine jj_g_E_body h (by omega) fl_D_32 d_D_decode_66 ?_
      try simp only [k3, k6, k7]
      refine jj_aload_n h d_D_decode_69 rfl ⟨_, rfl⟩ ?_
      refine jj_g_E_end h (by omega) fl_D_35 d_D_decode_70 ?_
      try simp only [k3, k6, k7]
      refine jj_callV h (cB_putRange (r := 5) ⟨by decide, by decide⟩ hw1 (by decide) h51.2.1 h51.2.2.1 p0 p1 (by rw [g3]; exact e1)) cv_D_45 (ro_of he (by first | decide | omega) (by decide)) rfl rfl (by unfold mt_N; omega) (ce_B (by omega)) rfl rfl (Nat.le_of_ble_eq_true rfl) d_D_decode_73 (fun v m73 hv => ?_)
      obtain ⟨rfl, t1⟩ := hv
      rw [show m1 (3 + 8) = mem 11 from g11] at t1
      have hD1 : slc (mem 11) b e = D := by rw [← hD]; unfold dec_; rw [if_neg q16, if_neg q39]
      rw [hD1] at t1
      exact tail _ t1 (by rw [← hD1, slc_lenI p1]; omega)
    · refine jj_aload_n h d_D_decode_42 rfl ⟨_, rfl⟩ ?_
      refine jj_aload_n h d_D_decode_43 rfl ⟨_, rfl⟩ ?_
      refine jj_g_E_body h (by omega) fl_D_32 d_D_decode_44 ?_
      try simp only [k3, k6, k7]
      refine jj_aload_n h d_D_decode_47 rfl ⟨_, rfl⟩ ?_
      refine jj_g_E_end h (by omega) fl_D_35 d_D_decode_48 ?_
      try simp only [k3, k6, k7]
      refine jj_callV h (cD_decodeQuoted hw1 h51 p0 p1 (by rw [g3]; exact e1) (by rw [g5]; exact hf)) cv_D_42 (ro_of he (by first | decide | omega) (by decide)) rfl rfl (by decide) rfl rfl rfl (Nat.le_of_ble_eq_true rfl) d_D_decode_51 (fun v m51 hv => ?_)
      obtain ⟨rfl, t1, t2⟩ := hv
      rw [g11] at t1 t2
      refine jj_goto h 76 d_D_decode_54 (by decide) ?_
      have hD1 : qp_ (slc (mem 11) b e) = D := by rw [← hD]; unfold dec_; rw [if_neg q16, if_pos q39]
      rw [hD1] at t1 t2
      exact tail _ t1 t2
  · refine jj_aload_n h d_D_decode_19 rfl ⟨_, rfl⟩ ?_
    refine jj_aload_n h d_D_decode_20 rfl ⟨_, rfl⟩ ?_
    refine jj_g_E_body h (by omega) fl_D_32 d_D_decode_21 ?_
    try simp only [k3, k6, k7]
    refine jj_aload_n h d_D_decode_24 rfl ⟨_, rfl⟩ ?_
    refine jj_g_E_end h (by omega) fl_D_35 d_D_decode_25 ?_
    try simp only [k3, k6, k7]
    refine jj_callV h (cD_decodeBase64 hw1 h51 p0 p1 (by rw [g3]; exact e1) (by rw [g5]; exact hf)) cv_D_38 (ro_of he (by first | decide | omega) (by decide)) rfl rfl (by decide) rfl rfl rfl (Nat.le_of_ble_eq_true rfl) d_D_decode_28 (fun v m28 hv => ?_)
    obtain ⟨rfl, t1, t2⟩ := hv
    rw [g11] at t1 t2
    refine jj_goto h 76 d_D_decode_31 (by decide) ?_
    have hD1 : b64d (slc (mem 11) b e) = D := by rw [← hD]; unfold dec_; rw [if_pos q16]
    rw [hD1] at t1 t2
    exact tail _ t1 t2
