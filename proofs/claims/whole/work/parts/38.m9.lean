/-! The reference: parameters. -/
def sg_ (mem : mt_M) (s : Int) (L : List Int) (m : mt_M) (L' : List Int) : Prop := fr_ mem m ∧ m 182 9 = mem 182 9 ∧ sL m s L' ∧ L' <:+ L
theorem sg_.go {mem m m2 : mt_M} {s : Int} {L L' L2 : List Int} (h : sg_ mem s L m L') (hq : fq_ m m2) (hs : sL m2 s L2) (hu : L2 <:+ L') : sg_ mem s L m2 L2 := ⟨h.1.trans hq.fr, (hq _ _ (Or.inr (by decide))).trans h.2.1, hs, hu.trans h.2.2.2⟩
theorem sg_.at {mem m : mt_M} {s : Int} {L L' : List Int} (h : sg_ mem s L m L') (hs : sL mem s L) : mem 182 13 ≤ m 182 13 ∧ m 182 13 ≤ s ∧ (L'.length : Int) = s - m 182 13 := by
  have a := h.2.2.1.len
  have b := hs.len
  have c := h.2.2.2.length_le
  omega
theorem sg_.fail {mem m : mt_M} {s : Int} {L L' : List Int} (h : sg_ mem s L m L') (hs : sL mem s L) (hb : by_ (mem 187) 0 (mem 182 9)) (hp : par L = none) : pP mem s L (some (vi 0)) m := by
  have := h.at hs
  have h1 := h.2.1
  refine ⟨h.1, by omega, by omega, by omega, h.1.by h.2.1 hb, ?_⟩
  rw [hp]
theorem tk_some {c : Int} {L l1 : List Int} (h : tk_ c L = some l1) : L = c :: l1 := by
  cases L with
  | nil => cases h
  | cons b t =>
    have e0 : tk_ c (b :: t) = if b = c then some t else none := rfl
    rw [e0] at h
    split at h
    · rename_i hb; cases h; rw [hb]
    · cases h
theorem tk_suf {c : Int} {L l1 : List Int} (h : tk_ c L = some l1) : l1 <:+ L := by rw [tk_some h]; exact List.suffix_cons c l1
theorem sL.now {mem : mt_M} {s : Int} {L : List Int} (h : sL mem s L) : (if mem 182 13 < s then mem 187 (mem 182 13) else -1) = L.headD (-1) := by
  have hl := h.len
  cases L with
  | nil => rw [if_neg (by simp at hl; omega)]; rfl
  | cons b t =>
    have h2 := h.2
    rw [List.length_cons] at hl
    rw [if_pos (by omega)]
    rw [slc_cons (by omega)] at h2
    exact (List.cons.inj h2).1
theorem sL.byt {mem : mt_M} {s b : Int} {t : List Int} (h : sL mem s (b :: t)) : 0 ≤ b ∧ b ≤ 255 := by
  have hl := h.len
  rw [List.length_cons] at hl
  have h2 := h.2
  rw [slc_cons (by omega)] at h2
  rw [← (List.cons.inj h2).1]
  exact h.1.2.2.2.2.2 _ (Int.le_refl _) (by omega)
theorem sL.hd {mem : mt_M} {s : Int} {L : List Int} (h : sL mem s L) : -1 ≤ L.headD (-1) ∧ L.headD (-1) ≤ 255 := by
  cases L with
  | nil => decide
  | cons b t => have := h.byt; exact ⟨by show -1 ≤ b; omega, by show b ≤ 255; omega⟩
theorem cM_parameter {G : mt_G} {l : Launch} {mem : mt_M} {s : Int} {L : List Int} (hs : sL mem s L) (hts : s ≤ mem 182 9) (hro : mem 182 9 + (s - mem 182 13) ≤ 1400) (hb : by_ (mem 187) 0 (mem 182 9)) : CT G l y_M_parameter c_M_parameter 4 (some .int) 5 [vr G 182] mem (pP mem s L) := by
  refine CT.intro (by decide) rfl (Nat.le_of_ble_eq_true rfl) (fun X h he => ?_)
  have hT0 : 0 ≤ mem 182 9 := by have := hs.1.2.2.1; have := hs.1.2.2.2.1; omega
  have ha0 := hs.1.2.2
  have hT1 : mem 182 9 ≤ 1400 := by omega
  have g0 : sg_ mem s L mem L := ⟨fr_.rf, rfl, hs, List.suffix_refl _⟩
  -- the end: a word stands at wordAt, behind it is R
  have fin : ∀ (m : mt_M) (b : Bool) (w R : List Int), fr_ mem m → m 182 9 ≤ mem 182 9 + (m 182 13 - mem 182 13) → mem 182 13 < m 182 13 → by_ (m 187) 0 (m 182 9) → sL m s R → s ≤ m 182 9 → 0 ≤ m 182 15 → m 182 16 = w.length → m 182 15 + m 182 16 ≤ m 182 9 → slc (m 187) (m 182 15) (m 182 15 + m 182 16) = w → par L = some (b, w, skp 0 R) → JJ G X 0 0 m 89 [some (vr G 182), some (vi (if b then 1 else 0)), none, none] [] := by
    intro m b w R f1 f2 f3 f4 f5 f6 f7 f8 f9 f10 f11
    refine jj_aload_n h d_M_parameter_89 rfl ⟨_, rfl⟩ ?_
    refine jj_g_M_wordAt h  fl_M_106 d_M_parameter_90 ?_
    try simp only [st_at, Nat.reduceEqDiff, Int.reduceEq, and_self, true_and, and_true, false_and, and_false, reduceIte]
    refine jj_istore_n h d_M_parameter_93 (Nat.le_of_ble_eq_true rfl) rfl ?_
    refine jj_aload_n h d_M_parameter_94 rfl ⟨_, rfl⟩ ?_
    refine jj_g_M_wordSize h  fl_M_112 d_M_parameter_95 ?_
    try simp only [st_at, Nat.reduceEqDiff, Int.reduceEq, and_self, true_and, and_true, false_and, and_false, reduceIte]
    refine jj_istore_n h d_M_parameter_98 (Nat.le_of_ble_eq_true rfl) rfl ?_
    refine jj_aload_n h d_M_parameter_99 rfl ⟨_, rfl⟩ ?_
    refine jj_callV h (cM_spaceL f5) cv_M_137 (ro_of he (by decide) (by decide)) rfl rfl (by decide) rfl rfl rfl (Nat.le_of_ble_eq_true rfl) d_M_parameter_100 (fun v m100 hv => ?_)
    obtain ⟨rfl, q1, hs2, w1, w2⟩ := hv
    refine jj_aload_n h d_M_parameter_103 rfl ⟨_, rfl⟩ ?_
    refine jj_iload_n h d_M_parameter_104 rfl ?_
    refine jj_p_M_wordAt h  fl_M_106 d_M_parameter_105 ?_
    refine jj_aload_n h d_M_parameter_108 rfl ⟨_, rfl⟩ ?_
    refine jj_iload_n h d_M_parameter_109 rfl ?_
    refine jj_p_M_wordSize h  fl_M_112 d_M_parameter_110 ?_
    have e9 : st_ (st_ m100 182 15 (m 182 15)) 182 16 (m 182 16) = m100 := by rw [← w1, st_id, ← w2, st_id]
    rw [e9]
    have hl1 := hs2.len
    have hl2 := f5.len
    have hl3 := (skp_suf R 0).length_le
    have t1 := q1 182 9 (Or.inr (by decide))
    have x1 := q1.txt
    have fin2 : ∀ z : Int, (z = if b then 2 else 1) → pP mem s L (some (vi z)) m100 := by
      intro z hz
      refine ⟨f1.trans q1.fr, by omega, by omega, by omega, by rw [x1, t1]; exact f4, ?_⟩
      rw [f11]
      exact ⟨by rw [hz], hs2, by omega, by omega, w2.trans f8, by omega, by rw [w1, w2, x1]; exact f10⟩
    refine jj_iload_n h d_M_parameter_113 rfl ?_
    refine jj_if_eq h 121 d_M_parameter_114 (by decide) ⟨by split <;> omega, by split <;> omega⟩ (fun q114 => ?_) (fun q114 => ?_)
    · refine jj_iconst h d_M_parameter_121 ?_
      refine jj_iret h he d_M_parameter_122 ?_
      exact fin2 1 (by cases b; rfl; exact absurd q114 (by decide))
    · refine jj_iconst h d_M_parameter_117 ?_
      refine jj_goto h 122 d_M_parameter_118 (by decide) ?_
      refine jj_iret h he d_M_parameter_122 ?_
      exact fin2 2 (by cases b; exact absurd rfl q114; rfl)
  have br : ∀ (x : List Int) (b : Bool), wd_ w_boundary x = b → (if wd_ w_boundary x then (1 : Int) else 0) = if b then 1 else 0 := fun x b hx => by rw [hx]
  refine jj_aload_n h d_M_parameter_0 rfl ⟨_, rfl⟩ ?_
  refine jj_bipush h d_M_parameter_1 (by decide) ?_
  refine jj_callV h (cM_takesL hs (by decide)) cv_M_150 (ro_of he (by decide) (by decide)) rfl rfl (by decide) rfl rfl rfl (Nat.le_of_ble_eq_true rfl) d_M_parameter_3 (fun v m3 hv => ?_)
  obtain ⟨q1, hv⟩ := hv
  cases hp1 : tk_ 59 L with
  | none =>
    rw [hp1] at hv
    obtain ⟨rfl, rfl⟩ := hv
    refine jj_if_ne h 11 d_M_parameter_6 (by decide) ⟨by decide, by decide⟩ (fun z => absurd rfl z) (fun _ => ?_)
    refine jj_iconst h d_M_parameter_9 ?_
    refine jj_iret h he d_M_parameter_10 ?_
    exact g0.fail hs hb (by unfold par; rw [hp1]; rfl)
  | some l1 =>
  rw [hp1] at hv
  obtain ⟨rfl, hs1⟩ := hv
  have g1 := g0.go q1 hs1 (tk_suf hp1)
  refine jj_if_ne h 11 d_M_parameter_6 (by decide) ⟨by decide, by decide⟩ (fun _ => ?_) (fun q6 => absurd q6 (by omega))
  refine jj_aload_n h d_M_parameter_11 rfl ⟨_, rfl⟩ ?_
  refine jj_callV h (cM_spaceL hs1) cv_M_137 (ro_of he (by decide) (by decide)) rfl rfl (by decide) rfl rfl rfl (Nat.le_of_ble_eq_true rfl) d_M_parameter_12 (fun v m12 hv => ?_)
  obtain ⟨rfl, q2, hs2, -, -⟩ := hv
  have g2 := g1.go q2 hs2 (skp_suf _ 0)
  refine jj_aload_n h d_M_parameter_15 rfl ⟨_, rfl⟩ ?_
  refine jj_callV h (cM_atomL hs2) cv_M_140 (ro_of he (by decide) (by decide)) rfl rfl (by decide) rfl rfl rfl (Nat.le_of_ble_eq_true rfl) d_M_parameter_16 (fun v m16 hv => ?_)
  obtain ⟨rfl, q3, hs3, w1, w2, w3, w4, w5⟩ := hv
  have g3 := g2.go q3 hs3 (dw_suf _ _)
  refine jj_if_ne h 24 d_M_parameter_19 (by decide) ⟨by split <;> omega, by split <;> omega⟩ (fun q19 => ?_) (fun q19 => ?_)
  · have e1 : ¬ (skp 0 l1).takeWhile at_ = [] := fun z => q19 (by rw [if_pos z])
    have p2 : atm (skp 0 l1) = some ((skp 0 l1).takeWhile at_, (skp 0 l1).dropWhile at_) := if_neg e1
    have hb3 := g3.1.by g3.2.1 hb
    have t3 := g3.2.1
    refine jj_aload_n h d_M_parameter_24 rfl ⟨_, rfl⟩ ?_
    refine jj_aload_n h d_M_parameter_25 rfl ⟨_, rfl⟩ ?_
    refine jj_g_M_wordAt h  fl_M_106 d_M_parameter_26 ?_
    refine jj_aload_n h d_M_parameter_29 rfl ⟨_, rfl⟩ ?_
    refine jj_g_M_wordSize h  fl_M_112 d_M_parameter_30 ?_
    refine jj_ldc2 h (55661328426629497) d_M_parameter_33 wk_M_153 ?_
    refine jj_lconst0 h d_M_parameter_36 ?_
    refine jj_lconst0 h d_M_parameter_37 ?_
    refine jj_callV h (cM_isWord wl_boundary.1 wl_boundary.2 w1 w2 (by omega) (hb3.sub w1 (by omega))) cv_M_119 (ro_of he (by decide) (by decide)) rfl rfl (by decide) rfl rfl rfl (Nat.le_of_ble_eq_true rfl) d_M_parameter_38 (fun v m38 hv => ?_)
    obtain ⟨rfl, rfl⟩ := hv
    rw [q3.txt, w5]
    refine jj_istore_n h d_M_parameter_41 (Nat.le_of_ble_eq_true rfl) rfl ?_
    refine jj_aload_n h d_M_parameter_42 rfl ⟨_, rfl⟩ ?_
    refine jj_callV h (cM_spaceL hs3) cv_M_137 (ro_of he (by decide) (by decide)) rfl rfl (by decide) rfl rfl rfl (Nat.le_of_ble_eq_true rfl) d_M_parameter_43 (fun v m43 hv => ?_)
    obtain ⟨rfl, q4, hs4, -, -⟩ := hv
    have g4 := g3.go q4 hs4 (skp_suf _ 0)
    refine jj_aload_n h d_M_parameter_46 rfl ⟨_, rfl⟩ ?_
    refine jj_bipush h d_M_parameter_47 (by decide) ?_
    refine jj_callV h (cM_takesL hs4 (by decide)) cv_M_150 (ro_of he (by decide) (by decide)) rfl rfl (by decide) rfl rfl rfl (Nat.le_of_ble_eq_true rfl) d_M_parameter_49 (fun v m49 hv => ?_)
    obtain ⟨q5, hv⟩ := hv
    cases hp3 : tk_ 61 (skp 0 ((skp 0 l1).dropWhile at_)) with
    | none =>
      rw [hp3] at hv
      obtain ⟨rfl, rfl⟩ := hv
      refine jj_if_ne h 57 d_M_parameter_52 (by decide) ⟨by decide, by decide⟩ (fun z => absurd rfl z) (fun _ => ?_)
      refine jj_iconst h d_M_parameter_55 ?_
      refine jj_iret h he d_M_parameter_56 ?_
      exact g4.fail hs hb (by unfold par; rw [hp1]; show (atm (skp 0 l1)).bind _ = none; rw [p2]; show (tk_ 61 _).bind _ = none; rw [hp3]; rfl)
    | some l2 =>
    rw [hp3] at hv
    obtain ⟨rfl, hs5⟩ := hv
    have g5 := g4.go q5 hs5 (tk_suf hp3)
    refine jj_if_ne h 57 d_M_parameter_52 (by decide) ⟨by decide, by decide⟩ (fun _ => ?_) (fun q52 => absurd q52 (by omega))
    refine jj_aload_n h d_M_parameter_57 rfl ⟨_, rfl⟩ ?_
    refine jj_callV h (cM_spaceL hs5) cv_M_137 (ro_of he (by decide) (by decide)) rfl rfl (by decide) rfl rfl rfl (Nat.le_of_ble_eq_true rfl) d_M_parameter_58 (fun v m58 hv => ?_)
    obtain ⟨rfl, q6, hs6, -, -⟩ := hv
    have g6 := g5.go q6 hs6 (skp_suf _ 0)
    have hpar : ∀ r, (match tk_ 34 (skp 0 l2) with | some l3 => qtd l3 | none => atm (skp 0 l2)) = r → par L = r.map fun (w : List Int × List Int) => (wd_ w_boundary ((skp 0 l1).takeWhile at_), w.1, skp 0 w.2) := by
      intro r hr
      unfold par
      rw [hp1]
      show (atm (skp 0 l1)).bind _ = _
      rw [p2]
      show (tk_ 61 _).bind _ = _
      rw [hp3]
      show Option.map _ _ = _
      rw [← hr]
      rfl
    have hb6 := g6.1.by g6.2.1 hb
    have t6 := g6.2.1
    have a6 := g6.at hs
    have a4 := (tk_suf hp3).length_le
    have a3 := g5.at hs
    have a2 := (tk_some hp1)
    have a1 := hs.len
    have a0 := g1.at hs
    rw [a2, List.length_cons] at a1
    have a8 := g1.2.2.1.len
    have a9 : (l2.length : Int) ≤ l1.length := by
      have z1 := (tk_suf hp3).length_le
      have z2 := (skp_suf ((skp 0 l1).dropWhile at_) 0).length_le
      have z3 := (dw_suf at_ (skp 0 l1)).length_le
      have z4 := (skp_suf l1 0).length_le
      omega
    have a10 := (skp_suf l2 0).length_le
    refine jj_aload_n h d_M_parameter_61 rfl ⟨_, rfl⟩ ?_
    refine jj_callV h (cM_now2 hs6.1) cv_M_99 (ro_of he (by decide) (by decide)) rfl rfl (by decide) rfl rfl rfl (Nat.le_of_ble_eq_true rfl) d_M_parameter_62 (fun v m62 hv => ?_)
    obtain ⟨rfl, rfl⟩ := hv
    rw [hs6.now]
    have hh6 := hs6.hd
    refine jj_bipush h d_M_parameter_65 (by decide) ?_
    refine jj_icmp_ne h 80 d_M_parameter_67 (by decide) ⟨by omega, by omega⟩ ⟨by omega, by omega⟩ (fun q67 => ?_) (fun q67 => ?_)
    · refine jj_aload_n h d_M_parameter_80 rfl ⟨_, rfl⟩ ?_
      refine jj_callV h (cM_atomL hs6) cv_M_140 (ro_of he (by decide) (by decide)) rfl rfl (by decide) rfl rfl rfl (Nat.le_of_ble_eq_true rfl) d_M_parameter_81 (fun v m81 hv => ?_)
      obtain ⟨rfl, q8, hs8, x1, x2, x3, x4, x5⟩ := hv
      have g8 := g6.go q8 hs8 (dw_suf _ _)
      have hp4 : tk_ 34 (skp 0 l2) = none := by
        cases hq : skp 0 l2 with
        | nil => rfl
        | cons b t => rw [hq] at q67; exact if_neg q67
      have hpq := hpar (atm (skp 0 l2)) (by rw [hp4])
      have hb8 := g8.1.by g8.2.1 hb
      have t8 := g8.2.1
      have a11 := g8.at hs
      have a12 := (dw_suf at_ (skp 0 l2)).length_le
      refine jj_if_ne h 89 d_M_parameter_84 (by decide) ⟨by split <;> omega, by split <;> omega⟩ (fun q84 => ?_) (fun q84 => ?_)
      · have e8 : ¬ (skp 0 l2).takeWhile at_ = [] := fun z => q84 (by rw [if_pos z])
        rw [show atm (skp 0 l2) = some ((skp 0 l2).takeWhile at_, (skp 0 l2).dropWhile at_) from if_neg e8] at hpq
        have x6 := congrArg List.length x5
        rw [slc_len] at x6
        exact fin m81 _ ((skp 0 l2).takeWhile at_) ((skp 0 l2).dropWhile at_) g8.1 (by omega) (by omega) hb8 hs8 (by omega) x1 (by omega) (by omega) (by rw [q8.txt]; exact x5) hpq
      · have e8 : (skp 0 l2).takeWhile at_ = [] := Decidable.byContradiction fun z => by rw [if_neg z] at q84; omega
        refine jj_iconst h d_M_parameter_87 ?_
        refine jj_iret h he d_M_parameter_88 ?_
        exact g8.fail hs hb (by rw [hpq, show atm (skp 0 l2) = none from if_pos e8]; rfl)
    · obtain ⟨l3, h3⟩ : ∃ l3, skp 0 l2 = 34 :: l3 := by
        cases hq : skp 0 l2 with
        | nil => rw [hq] at q67; exact absurd q67 (by decide)
        | cons b t => rw [hq] at q67; exact ⟨t, by rw [show b = 34 from q67]⟩
      have hp4 : tk_ 34 (skp 0 l2) = some l3 := by rw [h3]; rfl
      rw [h3] at hs6
      have hl6 := hs6.len
      rw [List.length_cons] at hl6
      rw [h3, List.length_cons] at a10
      rw [h3, List.length_cons] at a6
      refine jj_aload_n h d_M_parameter_70 rfl ⟨_, rfl⟩ ?_
      refine jj_callV h (cM_quotedL hs6 (by omega) (by omega) hb6) cv_M_155 (ro_of he (by decide) (by decide)) rfl rfl (by decide) rfl rfl rfl (Nat.le_of_ble_eq_true rfl) d_M_parameter_71 (fun v m71 hv => ?_)
      obtain ⟨b7, f7, t7, a7, s7, hv⟩ := hv
      have hpq := hpar (qtd l3) (by rw [hp4])
      cases hq : qtd l3 with
      | none =>
        rw [hq] at hv hpq
        subst hv
        refine jj_if_ne h 89 d_M_parameter_74 (by decide) ⟨by decide, by decide⟩ (fun z => absurd rfl z) (fun _ => ?_)
        refine jj_goto h 87 d_M_parameter_77 (by decide) ?_
        refine jj_iconst h d_M_parameter_87 ?_
        refine jj_iret h he d_M_parameter_88 ?_
        refine ⟨g6.1.trans f7, by omega, by omega, by omega, b7, ?_⟩
        rw [hpq]; rfl
      | some q =>
        rw [hq] at hv hpq
        obtain ⟨rfl, hs7, v1, v2, v3, v4⟩ := hv
        have hl7 := hs7.len
        have hq2 := (qtd_suf l3 q hq).length_le
        refine jj_if_ne h 89 d_M_parameter_74 (by decide) ⟨by decide, by decide⟩ (fun _ => ?_) (fun z => absurd z (by decide))
        refine fin m71 _ q.1 q.2 (g6.1.trans f7) (by omega) (by omega) b7 hs7 (by omega) (by omega) v2 (by omega) ?_ hpq
        rw [v1, show m58 182 9 + m71 182 16 = m71 182 9 by omega]
        exact v4
  · have e1 : (skp 0 l1).takeWhile at_ = [] := Decidable.byContradiction fun z => by rw [if_neg z] at q19; omega
    refine jj_iconst h d_M_parameter_22 ?_
    refine jj_iret h he d_M_parameter_23 ?_
    exact g3.fail hs hb (by unfold par; rw [hp1]; show (atm (skp 0 l1)).bind _ = none; rw [show atm (skp 0 l1) = none from if_pos e1]; rfl)
theorem cM_isBoundary {G : mt_G} {l : Launch} {mem : mt_M} {w : List Int} (h0 : 0 ≤ mem 182 15) (h1 : mem 182 16 = w.length) (h2 : mem 182 15 + mem 182 16 ≤ 1400) (hb : by_ (mem 187) (mem 182 15) (mem 182 15 + mem 182 16)) (hw : slc (mem 187) (mem 182 15) (mem 182 15 + mem 182 16) = w) : CT G l y_M_isBoundary c_M_isBoundary 3 (some .boolean) 1 [vr G 182] mem (fun v m' => v = some (vi (if bd_ w then 1 else 0)) ∧ mem = m') := by
  refine CT.intro (by decide) rfl (Nat.le_of_ble_eq_true rfl) (fun X h he => ?_)
  generalize ha : mem 182 15 = a at *
  generalize hn : mem 182 16 = n at *
  have hm : ∀ c : Int, c ∈ w → ∃ i : Int, 0 ≤ i ∧ i < n ∧ c = mem 187 (a + i) := by
    intro c hc
    rw [← hw] at hc
    obtain ⟨i, hi, e⟩ := List.getElem_of_mem hc
    rw [slc_len] at hi
    refine ⟨i, by omega, by omega, ?_⟩
    have := slc_get (f := mem 187) (p := a) (e := a + n) (i := i) (by omega) (by omega)
    rw [show ((i : Int)).toNat = i from rfl] at this
    rw [List.getElem?_eq_getElem (by rw [slc_len]; omega)] at this
    exact e.symm.trans (Option.some.inj this)
  have hmi : ∀ i : Int, 0 ≤ i → i < n → mem 187 (a + i) ∈ w := by
    intro i i0 i1
    rw [← hw]
    exact List.mem_of_getElem? (slc_get i0 (by omega))
  have hlast : 0 < n → w.getLast? = some (mem 187 (a + n - 1)) := by
    intro hp
    rw [← hw, show a + n = (a + n - 1) + 1 by omega, slc_snoc (by omega), List.getLast?_append, show a + n - 1 + 1 - 1 = a + n - 1 by omega]
    rfl
  have fin : ∀ (q z : Int), 0 ≤ q → q ≤ n → (z = 0 ∨ q = n) → (z = 0 ∨ z = 1) → (z = 1 ↔ (1 ≤ n ∧ n ≤ 20 ∧ ∀ i : Int, 0 ≤ i → i < q → 32 ≤ mem 187 (a + i) ∧ mem 187 (a + i) ≤ 126)) → JJ G X 0 0 mem 80 [some (vr G 182), some (vi z), some (vi q)] [] := by
    intro q z hq hq1 hzq hz hi
    refine jj_iload_n h d_M_isBoundary_80 rfl ?_
    refine jj_if_eq h 109 d_M_isBoundary_81 (by decide) ⟨by omega, by omega⟩ (fun q81 => ?_) (fun q81 => ?_)
    · refine jj_iconst h d_M_isBoundary_109 ?_
      refine jj_zret h he (by omega) d_M_isBoundary_110 ?_
      refine ⟨?_, rfl⟩
      have e2 : ¬ bd_ w = true := fun z9 => by
        have := of_decide_eq_true z9
        have : z = 1 := hi.mpr ⟨by omega, by omega, fun i i0 i1 => this.2.2.1 _ (hmi i i0 (by omega))⟩
        omega
      rw [if_neg e2]
    · have hz1 : z = 1 := by omega
      have hi1 := hi.mp hz1
      have hby := hb (a + n - 1) (by omega) (by omega)
      refine jj_aload_n h d_M_isBoundary_84 rfl ⟨_, rfl⟩ ?_
      refine jj_g_M_text h  fl_M_22 d_M_isBoundary_85 ?_
      try simp only [ha, hn]
      refine jj_aload_n h d_M_isBoundary_88 rfl ⟨_, rfl⟩ ?_
      refine jj_g_M_wordAt h  fl_M_106 d_M_isBoundary_89 ?_
      try simp only [ha, hn]
      refine jj_aload_n h d_M_isBoundary_92 rfl ⟨_, rfl⟩ ?_
      refine jj_g_M_wordSize h  fl_M_112 d_M_isBoundary_93 ?_
      try simp only [ha, hn]
      refine jj_iadd h d_M_isBoundary_96 ?_
      refine jj_iconst h d_M_isBoundary_97 ?_
      refine jj_isub h d_M_isBoundary_98 ?_
      refine jj_iaload (N := 1400) h (by decide) rfl (by decide) (by omega) (by omega) d_M_isBoundary_99 ?_
      try simp only [ha, hn]
      refine jj_bipush h d_M_isBoundary_100 (by decide) ?_
      refine jj_icmp_eq h 109 d_M_isBoundary_102 (by decide) ⟨by omega, by omega⟩ ⟨by omega, by omega⟩ (fun q102 => ?_) (fun q102 => ?_)
      · refine jj_iconst h d_M_isBoundary_109 ?_
        refine jj_zret h he (by omega) d_M_isBoundary_110 ?_
        refine ⟨?_, rfl⟩
        have e2 : ¬ bd_ w = true := fun z9 => (of_decide_eq_true z9).2.2.2 (by rw [hlast (by omega), q102])
        rw [if_neg e2]
      · refine jj_iconst h d_M_isBoundary_105 ?_
        refine jj_goto h 110 d_M_isBoundary_106 (by decide) ?_
        refine jj_zret h he (by omega) d_M_isBoundary_110 ?_
        refine ⟨?_, rfl⟩
        have e2 : bd_ w = true := decide_eq_true ⟨by omega, by omega, fun c hc => by obtain ⟨i, i0, i1, rfl⟩ := hm c hc; exact hi1.2.2 i i0 (by omega), by rw [hlast (by omega)]; intro z9; exact q102 (Option.some.inj z9)⟩
        rw [if_pos e2]
  have loop : ∀ (k : Nat) (q z : Int), (n - q).toNat = k → 0 ≤ q → q ≤ n → (z = 0 ∨ z = 1) → (z = 1 ↔ (1 ≤ n ∧ n ≤ 20 ∧ ∀ i : Int, 0 ≤ i → i < q → 32 ≤ mem 187 (a + i) ∧ mem 187 (a + i) ≤ 126)) → JJ G X 0 0 mem 24 [some (vr G 182), some (vi z), some (vi q)] [] := by
    intro k
    induction k with
    | zero =>
      intro q z hk hq hq1 hz hi
      refine jj_iload_n h d_M_isBoundary_24 rfl ?_
      refine jj_aload_n h d_M_isBoundary_25 rfl ⟨_, rfl⟩ ?_
      refine jj_g_M_wordSize h  fl_M_112 d_M_isBoundary_26 ?_
      try simp only [ha, hn]
      refine jj_icmp_ge h 80 d_M_isBoundary_29 (by decide) ⟨by omega, by omega⟩ ⟨by omega, by omega⟩ (fun _ => ?_) (fun q29 => absurd (by omega) q29)
      exact fin q z hq hq1 (Or.inr (by omega)) hz hi
    | succ k ih =>
      intro q z hk hq hq1 hz hi
      have hby := hb (a + q) (by omega) (by omega)
      refine jj_iload_n h d_M_isBoundary_24 rfl ?_
      refine jj_aload_n h d_M_isBoundary_25 rfl ⟨_, rfl⟩ ?_
      refine jj_g_M_wordSize h  fl_M_112 d_M_isBoundary_26 ?_
      try simp only [ha, hn]
      refine jj_icmp_ge h 80 d_M_isBoundary_29 (by decide) ⟨by omega, by omega⟩ ⟨by omega, by omega⟩ (fun q29 => absurd q29 (by omega)) (fun _ => ?_)
      refine jj_iload_n h d_M_isBoundary_32 rfl ?_
      refine jj_if_eq h 80 d_M_isBoundary_33 (by decide) ⟨by omega, by omega⟩ (fun q33 => ?_) (fun q33 => ?_)
      · exact fin q z hq hq1 (Or.inl q33) hz hi
      · refine jj_aload_n h d_M_isBoundary_36 rfl ⟨_, rfl⟩ ?_
        refine jj_g_M_text h  fl_M_22 d_M_isBoundary_37 ?_
        try simp only [ha, hn]
        refine jj_aload_n h d_M_isBoundary_40 rfl ⟨_, rfl⟩ ?_
        refine jj_g_M_wordAt h  fl_M_106 d_M_isBoundary_41 ?_
        try simp only [ha, hn]
        refine jj_iload_n h d_M_isBoundary_44 rfl ?_
        refine jj_iadd h d_M_isBoundary_45 ?_
        refine jj_iaload (N := 1400) h (by decide) rfl (by decide) (by omega) (by omega) d_M_isBoundary_46 ?_
        try simp only [ha, hn]
        refine jj_bipush h d_M_isBoundary_47 (by decide) ?_
        refine jj_icmp_le h 72 d_M_isBoundary_49 (by decide) ⟨by omega, by omega⟩ ⟨by omega, by omega⟩ (fun q49 => ?_) (fun q49 => ?_)
        · refine jj_iconst h d_M_isBoundary_72 ?_
          refine jj_istore_n h d_M_isBoundary_73 (Nat.le_of_ble_eq_true rfl) rfl ?_
          refine jj_iinc h d_M_isBoundary_74 rfl rfl ?_
          refine jj_goto h 24 d_M_isBoundary_77 (by decide) ?_
          refine ih (q + 1) 0 (by omega) (by omega) (by omega) (by omega) ⟨fun z9 => absurd z9 (by decide), fun z9 => ?_⟩
          have := z9.2.2 q hq (by omega)
          omega
        · refine jj_aload_n h d_M_isBoundary_52 rfl ⟨_, rfl⟩ ?_
          refine jj_g_M_text h  fl_M_22 d_M_isBoundary_53 ?_
          try simp only [ha, hn]
          refine jj_aload_n h d_M_isBoundary_56 rfl ⟨_, rfl⟩ ?_
          refine jj_g_M_wordAt h  fl_M_106 d_M_isBoundary_57 ?_
          try simp only [ha, hn]
          refine jj_iload_n h d_M_isBoundary_60 rfl ?_
          refine jj_iadd h d_M_isBoundary_61 ?_
          refine jj_iaload (N := 1400) h (by decide) rfl (by decide) (by omega) (by omega) d_M_isBoundary_62 ?_
          try simp only [ha, hn]
          refine jj_bipush h d_M_isBoundary_63 (by decide) ?_
          refine jj_icmp_ge h 72 d_M_isBoundary_65 (by decide) ⟨by omega, by omega⟩ ⟨by omega, by omega⟩ (fun q65 => ?_) (fun q65 => ?_)
          · refine jj_iconst h d_M_isBoundary_72 ?_
            refine jj_istore_n h d_M_isBoundary_73 (Nat.le_of_ble_eq_true rfl) rfl ?_
            refine jj_iinc h d_M_isBoundary_74 rfl rfl ?_
            refine jj_goto h 24 d_M_isBoundary_77 (by decide) ?_
            refine ih (q + 1) 0 (by omega) (by omega) (by omega) (by omega) ⟨fun z9 => absurd z9 (by decide), fun z9 => ?_⟩
            have := z9.2.2 q hq (by omega)
            omega
          · refine jj_iconst h d_M_isBoundary_68 ?_
            refine jj_goto h 73 d_M_isBoundary_69 (by decide) ?_
            refine jj_istore_n h d_M_isBoundary_73 (Nat.le_of_ble_eq_true rfl) rfl ?_
            refine jj_iinc h d_M_isBoundary_74 rfl rfl ?_
            refine jj_goto h 24 d_M_isBoundary_77 (by decide) ?_
            refine ih (q + 1) 1 (by omega) (by omega) (by omega) (by omega) ⟨fun _ => ?_, fun _ => rfl⟩
            have hi1 := hi.mp (by omega)
            refine ⟨hi1.1, hi1.2.1, fun i i0 i1 => ?_⟩
            by_cases hiq : i = q
            · subst hiq; omega
            · exact hi1.2.2 i i0 (by omega)
  refine jj_aload_n h d_M_isBoundary_0 rfl ⟨_, rfl⟩ ?_
  refine jj_g_M_wordSize h  fl_M_112 d_M_isBoundary_1 ?_
  try simp only [ha, hn]
  refine jj_if_le h 20 d_M_isBoundary_4 (by decide) ⟨by omega, by omega⟩ (fun q4 => ?_) (fun q4 => ?_)
  · refine jj_iconst h d_M_isBoundary_20 ?_
    refine jj_istore_n h d_M_isBoundary_21 (Nat.le_of_ble_eq_true rfl) rfl ?_
    refine jj_iconst h d_M_isBoundary_22 ?_
    refine jj_istore_n h d_M_isBoundary_23 (Nat.le_of_ble_eq_true rfl) rfl ?_
    exact loop _ 0 0 rfl (by omega) (by omega) (by omega) ⟨fun z9 => absurd z9 (by decide), fun z9 => by omega⟩
  · refine jj_aload_n h d_M_isBoundary_7 rfl ⟨_, rfl⟩ ?_
    refine jj_g_M_wordSize h  fl_M_112 d_M_isBoundary_8 ?_
    try simp only [ha, hn]
    refine jj_bipush h d_M_isBoundary_11 (by decide) ?_
    refine jj_icmp_ge h 20 d_M_isBoundary_13 (by decide) ⟨by omega, by omega⟩ ⟨by omega, by omega⟩ (fun q13 => ?_) (fun q13 => ?_)
    · refine jj_iconst h d_M_isBoundary_20 ?_
      refine jj_istore_n h d_M_isBoundary_21 (Nat.le_of_ble_eq_true rfl) rfl ?_
      refine jj_iconst h d_M_isBoundary_22 ?_
      refine jj_istore_n h d_M_isBoundary_23 (Nat.le_of_ble_eq_true rfl) rfl ?_
      exact loop _ 0 0 rfl (by omega) (by omega) (by omega) ⟨fun z9 => absurd z9 (by decide), fun z9 => by omega⟩
    · refine jj_iconst h d_M_isBoundary_16 ?_
      refine jj_goto h 21 d_M_isBoundary_17 (by decide) ?_
      refine jj_istore_n h d_M_isBoundary_21 (Nat.le_of_ble_eq_true rfl) rfl ?_
      refine jj_iconst h d_M_isBoundary_22 ?_
      refine jj_istore_n h d_M_isBoundary_23 (Nat.le_of_ble_eq_true rfl) rfl ?_
      exact loop _ 0 1 rfl (by omega) (by omega) (by omega) ⟨fun z9 => ⟨by omega, by omega, fun i i0 i1 => by omega⟩, fun z9 => rfl⟩
