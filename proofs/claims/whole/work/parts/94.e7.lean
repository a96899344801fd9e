/-! The class: is a line a delimiter. -/
theorem strp_bl {r : List Int} (h : bb_ r = []) : strp [45, 45] r = none := by
  cases r with
  | nil => rfl
  | cons c t =>
    have hc : bl_ c := Decidable.byContradiction fun z => by rw [bb_, if_neg z] at h; cases h
    show (if c = 45 then strp [45] t else none) = none
    rw [if_neg (by rcases hc with hc | hc <;> omega)]
theorem cT_markOf {G : mt_G} {l : Launch} {mem : mt_M} {N : Nat} {p s : Int} {B : List Int} (hN : N < 16) (hw : bw_ mem 3) (h6 : bw_ mem 6) (hB : mem (22 + N) 11 = B.length) (ha : 0 ≤ mem (22 + N) 10) (hT : mem (22 + N) 10 + B.length ≤ mem 6 1) (hBt : slc (mem 14) (mem (22 + N) 10) (mem (22 + N) 10 + B.length) = B) (p0 : 0 ≤ p) (p1 : p ≤ s) (s1 : s ≤ mem 3 1) : CT G l y_T_markOf c_T_markOf 6 (some .int) 6 [vr G 17, vr G (22 + N), vi p, vi s] mem (fun v m' => v = some (vi (mk_ B (slc (mem 11) p s))) ∧ mem = m') := by
  have hsz := hw.2.2.1
  have hl9 : ln_ (3 + 8) = 320 := rfl
  have hsz6 := h6.2.2.1
  have hl6 : ln_ (6 + 8) = 320 := rfl
  refine CT.intro (by decide) rfl (Nat.le_of_ble_eq_true rfl) (fun X h he => ?_)
  generalize hA : mem (22 + N) 10 = A at *
  generalize hn : (B.length : Int) = n at *
  have hn0 : 0 ≤ n := by omega
  generalize hK : mk_ B (slc (mem 11) p s) = K at *
  have t10 : tx_ 10 = [45, 45] := rfl
  have t2 : ((tx_ 10).length : Int) = 2 := rfl
  -- the boundary was there
  have cl : p + 2 + n ≤ s → K = mr_ (slc (mem 11) (p + 2 + n) s) → ∀ y, JJ G X 0 0 mem 90 [some (vr G 17), some (vr G (22 + N)), some (vi p), some (vi s), some (vi (p + 2 + n)), y] [] := by
    intro c1 c2 y
    have hz := slc_suf (f := mem 11) (a := p + 2 + n) (s := s) (by omega) (bb_suf (slc (mem 11) (p + 2 + n) s))
    have bn : ∀ L : List Int, (s - (L.length : Int) = s) ↔ L = [] := fun L => ⟨fun z => List.length_eq_zero_iff.mp (by omega), fun z => by rw [z]; show s - ((0 : Nat) : Int) = s; omega⟩
    by_cases b1 : bb_ (slc (mem 11) (p + 2 + n) s) = []
    · have hk1 : K = 1 := by rw [c2]; unfold mr_; rw [strp_bl b1]; show (if bb_ (slc (mem 11) (p + 2 + n) s) = [] then (1 : Int) else 0) = 1; rw [if_pos b1]
      refine jj_aload_n h d_T_markOf_90 rfl ⟨_, rfl⟩ ?_
      refine jj_g_T_source h  fl_T_14 d_T_markOf_91 ?_
      refine jj_iload h d_T_markOf_94 rfl ?_
      refine jj_iload_n h d_T_markOf_96 rfl ?_
      refine jj_callV h (cB_skipBlanks hw (by omega) (by omega) s1) cv_T_168 (ro_of he (by first | decide | omega) (by decide)) rfl rfl (by unfold mt_N; omega) (ce_B (by omega)) rfl rfl (Nat.le_of_ble_eq_true rfl) d_T_markOf_97 (fun v m97 hv => ?_)
      obtain ⟨rfl, rfl⟩ := hv
      show JJ G X 0 0 mem _ _ (vi (s - (bb_ (slc (mem 11) (p + 2 + n) s)).length) :: _)
      rw [(bn _).mpr b1]
      refine jj_iload_n h d_T_markOf_100 rfl ?_
      refine jj_icmp_ne h 106 d_T_markOf_101 (by decide) ⟨by omega, by omega⟩ ⟨by omega, by omega⟩ (fun q101 => absurd (rfl) q101) (fun _ => ?_)
      refine jj_iconst h d_T_markOf_104 ?_
      refine jj_iret h he d_T_markOf_105 ?_
      exact ⟨by rw [hk1], rfl⟩
    have hb1 : s - ((bb_ (slc (mem 11) (p + 2 + n) s)).length : Int) ≠ s := fun z => b1 ((bn _).mp z)
    cases e3 : strp [45, 45] (slc (mem 11) (p + 2 + n) s) with
    | none =>
      have hk0 : K = 0 := by rw [c2]; unfold mr_; rw [e3]; show (if bb_ (slc (mem 11) (p + 2 + n) s) = [] then (1 : Int) else 0) = 0; rw [if_neg b1]
      refine jj_aload_n h d_T_markOf_90 rfl ⟨_, rfl⟩ ?_
      refine jj_g_T_source h  fl_T_14 d_T_markOf_91 ?_
      refine jj_iload h d_T_markOf_94 rfl ?_
      refine jj_iload_n h d_T_markOf_96 rfl ?_
      refine jj_callV h (cB_skipBlanks hw (by omega) (by omega) s1) cv_T_168 (ro_of he (by first | decide | omega) (by decide)) rfl rfl (by unfold mt_N; omega) (ce_B (by omega)) rfl rfl (Nat.le_of_ble_eq_true rfl) d_T_markOf_97 (fun v m97 hv => ?_)
      obtain ⟨rfl, rfl⟩ := hv
      show JJ G X 0 0 mem _ _ (vi (s - (bb_ (slc (mem 11) (p + 2 + n) s)).length) :: _)
      refine jj_iload_n h d_T_markOf_100 rfl ?_
      refine jj_icmp_ne h 106 d_T_markOf_101 (by decide) ⟨by omega, by omega⟩ ⟨by omega, by omega⟩ (fun _ => ?_) (fun q101 => absurd q101 (hb1))
      refine jj_aload_n h d_T_markOf_106 rfl ⟨_, rfl⟩ ?_
      refine jj_g_T_source h  fl_T_14 d_T_markOf_107 ?_
      refine jj_ldcS h 10 rfl d_T_markOf_110 ?_
      refine jj_iload h d_T_markOf_112 rfl ?_
      refine jj_iload_n h d_T_markOf_114 rfl ?_
      refine jj_callV h (cB_has (i := 10) (by decide) hw (by omega) (by omega) s1) cv_T_256 (ro_of he (by first | decide | omega) (by decide)) rfl rfl (by unfold mt_N; omega) (ce_B (by omega)) rfl rfl (Nat.le_of_ble_eq_true rfl) d_T_markOf_115 (fun v m115 hv => ?_)
      obtain ⟨rfl, rfl⟩ := hv
      rw [show mem (3 + 8) = mem 11 from rfl, t10, e3, show (if (none : Option (List Int)).isSome = true then (1 : Int) else 0) = 0 from rfl]
      refine jj_if_eq h 145 d_T_markOf_118 (by decide) ⟨by omega, by omega⟩ (fun _ => ?_) (fun q118 => absurd (by omega) q118)
      refine jj_iconst h d_T_markOf_145 ?_
      refine jj_istore h d_T_markOf_146 (Nat.le_of_ble_eq_true rfl) rfl ?_
      refine jj_iload h d_T_markOf_148 rfl ?_
      refine jj_if_eq h 157 d_T_markOf_150 (by decide) ⟨by decide, by decide⟩ (fun _ => ?_) (fun q150 => absurd (rfl) q150)
      refine jj_iconst h d_T_markOf_157 ?_
      refine jj_iret h he d_T_markOf_158 ?_
      exact ⟨by rw [hk0], rfl⟩
    | some r2 =>
      have hr2 : p + 2 + n + 2 ≤ s ∧ r2 = slc (mem 11) (p + 2 + n + 2) s := by
        by_cases g1 : p + 2 + n < s
        · rw [slc_cons g1] at e3
          have e3 : (if mem 11 (p + 2 + n) = 45 then strp [45] (slc (mem 11) (p + 2 + n + 1) s) else none) = some r2 := e3
          split at e3
          · by_cases g2 : p + 2 + n + 1 < s
            · rw [slc_cons g2] at e3
              have e3 : (if mem 11 (p + 2 + n + 1) = 45 then some (slc (mem 11) (p + 2 + n + 1 + 1) s) else none) = some r2 := e3
              split at e3
              · refine ⟨by omega, ?_⟩
                rw [← Option.some.inj e3, show p + 2 + n + 1 + 1 = p + 2 + n + 2 by omega]
              · cases e3
            · rw [slc_nil (by omega)] at e3; cases e3
          · cases e3
        · rw [slc_nil (by omega)] at e3; cases e3
      obtain ⟨g2, hr2⟩ := hr2
      have hk2 : K = if bb_ (slc (mem 11) (p + 2 + n + 2) s) = [] then 2 else 0 := by rw [c2]; unfold mr_; rw [e3, hr2]
      refine jj_aload_n h d_T_markOf_90 rfl ⟨_, rfl⟩ ?_
      refine jj_g_T_source h  fl_T_14 d_T_markOf_91 ?_
      refine jj_iload h d_T_markOf_94 rfl ?_
      refine jj_iload_n h d_T_markOf_96 rfl ?_
      refine jj_callV h (cB_skipBlanks hw (by omega) (by omega) s1) cv_T_168 (ro_of he (by first | decide | omega) (by decide)) rfl rfl (by unfold mt_N; omega) (ce_B (by omega)) rfl rfl (Nat.le_of_ble_eq_true rfl) d_T_markOf_97 (fun v m97 hv => ?_)
      obtain ⟨rfl, rfl⟩ := hv
      show JJ G X 0 0 mem _ _ (vi (s - (bb_ (slc (mem 11) (p + 2 + n) s)).length) :: _)
      refine jj_iload_n h d_T_markOf_100 rfl ?_
      refine jj_icmp_ne h 106 d_T_markOf_101 (by decide) ⟨by omega, by omega⟩ ⟨by omega, by omega⟩ (fun _ => ?_) (fun q101 => absurd q101 (hb1))
      refine jj_aload_n h d_T_markOf_106 rfl ⟨_, rfl⟩ ?_
      refine jj_g_T_source h  fl_T_14 d_T_markOf_107 ?_
      refine jj_ldcS h 10 rfl d_T_markOf_110 ?_
      refine jj_iload h d_T_markOf_112 rfl ?_
      refine jj_iload_n h d_T_markOf_114 rfl ?_
      refine jj_callV h (cB_has (i := 10) (by decide) hw (by omega) (by omega) s1) cv_T_256 (ro_of he (by first | decide | omega) (by decide)) rfl rfl (by unfold mt_N; omega) (ce_B (by omega)) rfl rfl (Nat.le_of_ble_eq_true rfl) d_T_markOf_115 (fun v m115 hv => ?_)
      obtain ⟨rfl, rfl⟩ := hv
      rw [show mem (3 + 8) = mem 11 from rfl, t10, e3, show (if (some r2 : Option (List Int)).isSome = true then (1 : Int) else 0) = 1 from rfl]
      refine jj_if_eq h 145 d_T_markOf_118 (by decide) ⟨by omega, by omega⟩ (fun q118 => absurd q118 (by omega)) (fun _ => ?_)
      refine jj_aload_n h d_T_markOf_121 rfl ⟨_, rfl⟩ ?_
      refine jj_g_T_source h  fl_T_14 d_T_markOf_122 ?_
      refine jj_iload h d_T_markOf_125 rfl ?_
      refine jj_ldcS h 10 rfl d_T_markOf_127 ?_
      refine jj_callK h (cQ_length (i := 10) (by decide)) cv_T_250 (ro_of he (by first | decide | omega) (by decide)) rfl rfl (by first | assumption | decide) rfl rfl (Nat.le_of_ble_eq_true rfl) d_T_markOf_129 (fun v m129 hv => ?_)
      obtain ⟨rfl, rfl⟩ := hv
      rw [t2]
      refine jj_iadd h d_T_markOf_132 ?_
      refine jj_iload_n h d_T_markOf_133 rfl ?_
      refine jj_callV h (cB_skipBlanks hw (by omega) (by omega) s1) cv_T_168 (ro_of he (by first | decide | omega) (by decide)) rfl rfl (by unfold mt_N; omega) (ce_B (by omega)) rfl rfl (Nat.le_of_ble_eq_true rfl) d_T_markOf_134 (fun v m134 hv => ?_)
      obtain ⟨rfl, rfl⟩ := hv
      show JJ G X 0 0 mem _ _ (vi (s - (bb_ (slc (mem 11) (p + 2 + n + 2) s)).length) :: _)
      have hz2 := (bb_suf (slc (mem 11) (p + 2 + n + 2) s)).length_le
      rw [slc_len] at hz2
      refine jj_iload_n h d_T_markOf_137 rfl ?_
      refine jj_icmp_ne h 145 d_T_markOf_138 (by decide) ⟨by omega, by omega⟩ ⟨by omega, by omega⟩ (fun q138 => ?_) (fun q138 => ?_)
      · have q138 : ¬ bb_ (slc (mem 11) (p + 2 + n + 2) s) = [] := fun z => q138 ((bn _).mpr z)
        refine jj_iconst h d_T_markOf_145 ?_
        refine jj_istore h d_T_markOf_146 (Nat.le_of_ble_eq_true rfl) rfl ?_
        refine jj_iload h d_T_markOf_148 rfl ?_
        refine jj_if_eq h 157 d_T_markOf_150 (by decide) ⟨by decide, by decide⟩ (fun _ => ?_) (fun q150 => absurd (rfl) q150)
        refine jj_iconst h d_T_markOf_157 ?_
        refine jj_iret h he d_T_markOf_158 ?_
        exact ⟨by rw [hk2, if_neg q138], rfl⟩
      · have q138 : bb_ (slc (mem 11) (p + 2 + n + 2) s) = [] := (bn _).mp (by omega)
        refine jj_iconst h d_T_markOf_141 ?_
        refine jj_goto h 146 d_T_markOf_142 (by decide) ?_
        refine jj_istore h d_T_markOf_146 (Nat.le_of_ble_eq_true rfl) rfl ?_
        refine jj_iload h d_T_markOf_148 rfl ?_
        refine jj_if_eq h 157 d_T_markOf_150 (by decide) ⟨by decide, by decide⟩ (fun q150 => absurd q150 ((by decide))) (fun _ => ?_)
        refine jj_iconst h d_T_markOf_153 ?_
        refine jj_goto h 158 d_T_markOf_154 (by decide) ?_
        refine jj_iret h he d_T_markOf_158 ?_
        exact ⟨by rw [hk2, if_pos q138], rfl⟩
  have loop : ∀ (j : Nat) (k : Int), (n - k).toNat = j → 0 ≤ k → k ≤ n → p + 2 + n ≤ s → (K = match strp (slc (mem 14) (A + k) (A + n)) (slc (mem 11) (p + 2 + k) s) with | none => 0 | some r => mr_ r) → JJ G X 0 0 mem 39 [some (vr G 17), some (vr G (22 + N)), some (vi p), some (vi s), some (vi (p + 2 + n)), some (vi k)] [] := by
    intro j
    induction j with
    | zero =>
      intro k k1 k2 k3 k4 k5
      rw [slc_nil (by omega), strp] at k5
      have hk : k = n := by omega
      subst hk
      refine jj_iload h d_T_markOf_39 rfl ?_
      refine jj_aload_n h d_T_markOf_41 rfl ⟨_, rfl⟩ ?_
      refine jj_g_E_boundarySize h (by omega) fl_T_233 d_T_markOf_42 ?_
      try simp only [hB]
      refine jj_icmp_ge h 90 d_T_markOf_45 (by decide) ⟨by omega, by omega⟩ ⟨by omega, by omega⟩ (fun _ => ?_) (fun q45 => absurd (by omega) q45)
      exact cl k4 k5 _
    | succ j ih =>
      intro k k1 k2 k3 k4 k5
      have b1 : 0 ≤ mem 11 (p + 2 + k) ∧ mem 11 (p + 2 + k) ≤ 255 := hw.2.2.2 _ (by omega) (by omega)
      have b2 : 0 ≤ mem 14 (A + k) ∧ mem 14 (A + k) ≤ 255 := h6.2.2.2 _ (by omega) (by omega)
      rw [slc_cons (by omega : A + k < A + n), slc_cons (by omega : p + 2 + k < s), strp] at k5
      refine jj_iload h d_T_markOf_39 rfl ?_
      refine jj_aload_n h d_T_markOf_41 rfl ⟨_, rfl⟩ ?_
      refine jj_g_E_boundarySize h (by omega) fl_T_233 d_T_markOf_42 ?_
      try simp only [hB, hA]
      refine jj_icmp_ge h 90 d_T_markOf_45 (by decide) ⟨by omega, by omega⟩ ⟨by omega, by omega⟩ (fun q45 => absurd q45 (by omega)) (fun _ => ?_)
      refine jj_aload_n h d_T_markOf_48 rfl ⟨_, rfl⟩ ?_
      refine jj_g_T_source h  fl_T_14 d_T_markOf_49 ?_
      try simp only [hB, hA]
      refine jj_iload_n h d_T_markOf_52 rfl ?_
      refine jj_ldcS h 10 rfl d_T_markOf_53 ?_
      refine jj_callK h (cQ_length (i := 10) (by decide)) cv_T_250 (ro_of he (by first | decide | omega) (by decide)) rfl rfl (by first | assumption | decide) rfl rfl (Nat.le_of_ble_eq_true rfl) d_T_markOf_55 (fun v m55 hv => ?_)
      obtain ⟨rfl, rfl⟩ := hv
      rw [t2]
      refine jj_iadd h d_T_markOf_58 ?_
      refine jj_iload h d_T_markOf_59 rfl ?_
      refine jj_iadd h d_T_markOf_61 ?_
      refine jj_callV h (cB_in hw (by omega) (by omega)) cv_T_129 (ro_of he (by first | decide | omega) (by decide)) rfl rfl (by unfold mt_N; omega) (ce_B (by omega)) rfl rfl (Nat.le_of_ble_eq_true rfl) d_T_markOf_62 (fun v m62 hv => ?_)
      obtain ⟨rfl, rfl⟩ := hv
      show JJ G X 0 0 mem _ _ (vi (mem 11 (p + 2 + k)) :: _)
      refine jj_aload_n h d_T_markOf_65 rfl ⟨_, rfl⟩ ?_
      refine jj_g_T_boundaries h  fl_T_26 d_T_markOf_66 ?_
      try simp only [hB, hA]
      refine jj_aload_n h d_T_markOf_69 rfl ⟨_, rfl⟩ ?_
      refine jj_g_E_boundaryBegin h (by omega) fl_T_227 d_T_markOf_70 ?_
      try simp only [hB, hA]
      refine jj_iload h d_T_markOf_73 rfl ?_
      refine jj_iadd h d_T_markOf_75 ?_
      refine jj_callV h (cB_in h6 (by omega) (by omega)) cv_T_129 (ro_of he (by first | decide | omega) (by decide)) rfl rfl (by unfold mt_N; omega) (ce_B (by omega)) rfl rfl (Nat.le_of_ble_eq_true rfl) d_T_markOf_76 (fun v m76 hv => ?_)
      obtain ⟨rfl, rfl⟩ := hv
      show JJ G X 0 0 mem _ _ (vi (mem 14 (A + k)) :: _)
      refine jj_icmp_eq h 84 d_T_markOf_79 (by decide) ⟨by omega, by omega⟩ ⟨by omega, by omega⟩ (fun q79 => ?_) (fun q79 => ?_)
      · rw [if_pos q79] at k5
        refine jj_iinc h d_T_markOf_84 rfl rfl ?_
        refine jj_goto h 39 d_T_markOf_87 (by decide) ?_
        exact ih (k + 1) (by omega) (by omega) (by omega) k4 (by rw [show A + (k + 1) = A + k + 1 by omega, show p + 2 + (k + 1) = p + 2 + k + 1 by omega]; exact k5)
      · rw [if_neg q79] at k5
        refine jj_iconst h d_T_markOf_82 ?_
        refine jj_iret h he d_T_markOf_83 ?_
        exact ⟨by rw [k5], rfl⟩
  have e2 : p + 2 + n ≤ s → K = match (if mem 11 p = 45 then (if mem 11 (p + 1) = 45 then strp B (slc (mem 11) (p + 2) s) else none) else none) with | none => 0 | some r => mr_ r := by
    intro g
    rw [← hK]; unfold mk_; rw [slc_cons (by omega : p < s), slc_cons (by omega : p + 1 < s), show p + 1 + 1 = p + 2 by omega]; rfl
  have e9 : p + 2 + n ≤ s → strp [45, 45] (slc (mem 11) p s) = (if mem 11 p = 45 then (if mem 11 (p + 1) = 45 then some (slc (mem 11) (p + 2) s) else none) else none) := by
    intro g
    rw [slc_cons (by omega : p < s), slc_cons (by omega : p + 1 < s), show p + 1 + 1 = p + 2 by omega]; rfl
  refine jj_iload_n h d_T_markOf_0 rfl ?_
  refine jj_ldcS h 10 rfl d_T_markOf_1 ?_
  refine jj_callK h (cQ_length (i := 10) (by decide)) cv_T_250 (ro_of he (by first | decide | omega) (by decide)) rfl rfl (by first | assumption | decide) rfl rfl (Nat.le_of_ble_eq_true rfl) d_T_markOf_3 (fun v m3 hv => ?_)
  obtain ⟨rfl, rfl⟩ := hv
  rw [t2]
  refine jj_iadd h d_T_markOf_6 ?_
  refine jj_aload_n h d_T_markOf_7 rfl ⟨_, rfl⟩ ?_
  refine jj_g_E_boundarySize h (by omega) fl_T_233 d_T_markOf_8 ?_
  try simp only [hB]
  refine jj_iadd h d_T_markOf_11 ?_
  refine jj_istore h d_T_markOf_12 (Nat.le_of_ble_eq_true rfl) rfl ?_
  refine jj_iload h d_T_markOf_14 rfl ?_
  refine jj_iload_n h d_T_markOf_16 rfl ?_
  refine jj_icmp_gt h 34 d_T_markOf_17 (by decide) ⟨by omega, by omega⟩ ⟨by omega, by omega⟩ (fun q17 => ?_) (fun q17 => ?_)
  · have e1 : K = 0 := by rw [← hK]; unfold mk_; rw [strp_short _ _ (by rw [slc_len]; simp only [List.length_cons]; omega)]
    refine jj_iconst h d_T_markOf_34 ?_
    refine jj_iret h he d_T_markOf_35 ?_
    exact ⟨by rw [e1], rfl⟩
  · have e2 := e2 (by omega)
    have e9 := e9 (by omega)
    refine jj_aload_n h d_T_markOf_20 rfl ⟨_, rfl⟩ ?_
    refine jj_g_T_source h  fl_T_14 d_T_markOf_21 ?_
    try simp only [hB]
    refine jj_ldcS h 10 rfl d_T_markOf_24 ?_
    refine jj_iload_n h d_T_markOf_26 rfl ?_
    refine jj_iload_n h d_T_markOf_27 rfl ?_
    refine jj_callV h (cB_has (i := 10) (by decide) hw (by omega) (by omega) s1) cv_T_256 (ro_of he (by first | decide | omega) (by decide)) rfl rfl (by unfold mt_N; omega) (ce_B (by omega)) rfl rfl (Nat.le_of_ble_eq_true rfl) d_T_markOf_28 (fun v m28 hv => ?_)
    obtain ⟨rfl, rfl⟩ := hv
    rw [show mem (3 + 8) = mem 11 from rfl, t10, e9]
    by_cases a1 : mem 11 p = 45 ∧ mem 11 (p + 1) = 45
    · rw [if_pos a1.1, if_pos a1.2] at e2 ⊢
      rw [show (if (some (slc (mem 11) (p + 2) s) : Option (List Int)).isSome = true then (1 : Int) else 0) = 1 from rfl]
      refine jj_if_ne h 36 d_T_markOf_31 (by decide) ⟨by decide, by decide⟩ (fun _ => ?_) (fun z => absurd z (by decide))
      refine jj_iconst h d_T_markOf_36 ?_
      refine jj_istore h d_T_markOf_37 (Nat.le_of_ble_eq_true rfl) rfl ?_
      exact loop _ 0 rfl (by omega) hn0 (by omega) (by rw [show A + 0 = A from Int.add_zero _, hBt, show p + 2 + 0 = p + 2 from Int.add_zero _]; exact e2)
    have a2 : (if mem 11 p = 45 then (if mem 11 (p + 1) = 45 then some (slc (mem 11) (p + 2) s) else none) else none) = none := by
      by_cases a3 : mem 11 p = 45
      · rw [if_pos a3, if_neg (fun z => a1 ⟨a3, z⟩)]
      · rw [if_neg a3]
    have a4 : (if mem 11 p = 45 then (if mem 11 (p + 1) = 45 then strp B (slc (mem 11) (p + 2) s) else none) else none) = none := by
      by_cases a3 : mem 11 p = 45
      · rw [if_pos a3, if_neg (fun z => a1 ⟨a3, z⟩)]
      · rw [if_neg a3]
    rw [a2, show (if (none : Option (List Int)).isSome = true then (1 : Int) else 0) = 0 from rfl]
    rw [a4] at e2
    refine jj_if_ne h 36 d_T_markOf_31 (by decide) ⟨by omega, by omega⟩ (fun q31 => absurd (by omega) q31) (fun _ => ?_)
    refine jj_iconst h d_T_markOf_34 ?_
    refine jj_iret h he d_T_markOf_35 ?_
    exact ⟨by rw [e2], rfl⟩
