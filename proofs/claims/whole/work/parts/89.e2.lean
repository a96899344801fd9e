/-! The class: a field begins; the fields are read. -/
theorem cT_begin {G : mt_G} {l : Launch} {mem : mt_M} {N : Nat} {F : List (List Int × List Int)} {b e : Int} (hN : N < 16) (hF : oG mem N F) (hw : bw_ mem 3) (h4 : bw_ mem 4) (b0 : 0 ≤ b) (b1 : b ≤ e) (e1 : e ≤ mem 3 1) (hf : mem 4 1 + (e - b) ≤ 320) : CT G l y_T_beginField c_T_beginField 8 (some .boolean) 3 [vr G 17, vr G (22 + N), vi b, vi e] mem (fun v m' => (0 < nameSize_ (mem 11) b e ∧ F.length < 8 → v = some (vi 1) ∧ oG m' N (F ++ [(slc (mem 11) b (b + nameSize_ (mem 11) b e), slc (mem 11) (b + nameSize_ (mem 11) b e + 1) e)]) ∧ fG N mem m' ∧ bw_ m' 4 ∧ m' 4 1 ≤ mem 4 1 + (e - b)) ∧ (¬ (0 < nameSize_ (mem 11) b e ∧ F.length < 8) → v = some (vi 0) ∧ mem = m')) := by
  have hsz := hw.2.2.1
  have hl9 : ln_ (3 + 8) = 320 := rfl
  have hl4 : ln_ (4 + 8) = 320 := rfl
  have h40 := h4.2.1
  refine CT.intro (by decide) rfl (Nat.le_of_ble_eq_true rfl) (fun X h he => ?_)
  obtain ⟨⟨c1, c2, c3⟩, -⟩ := hF
  generalize hns : nameSize_ (mem 11) b e = ns at *
  have fin : ∀ (q : Int) (M : mt_M), b < q → q < e → ns = q - b → F.length < 8 → st_ (st_ (st_ (st_ (st_ mem (22 + N) 12 (F.length + 1)) (54 + 8 * N + F.length) 0 b) (54 + 8 * N + F.length) 1 (q - b)) (54 + 8 * N + F.length) 2 (mem 4 1)) (54 + 8 * N + F.length) 3 (e - q - 1) = M → JJ G X 0 0 M 154 [some (vr G 17), some (vr G (22 + N)), some (vi b), some (vi e), some (vi q), some (vi 1), some (vi F.length), some (vr G (54 + 8 * N + F.length))] [] := by
    intro q M k1 k2 k3 k4 hM
    have x0 : ∀ r : Nat, r ≠ 22 + N → r ≠ 54 + 8 * N + F.length → M r = mem r := fun r a c => by rw [← hM, st_row c, st_row c, st_row c, st_row c, st_row a]
    have xk : ∀ z : Int, z ≠ 12 → M (22 + N) z = mem (22 + N) z := fun z hz => by rw [← hM, st_row (by omega), st_row (by omega), st_row (by omega), st_row (by omega), st_ne (Or.inr hz)]
    have xk12 : M (22 + N) 12 = F.length + 1 := by rw [← hM, st_row (by omega), st_row (by omega), st_row (by omega), st_row (by omega), st_same]
    have j0 : M (54 + 8 * N + F.length) 0 = b := by rw [← hM, st_ne (Or.inr (by decide)), st_ne (Or.inr (by decide)), st_ne (Or.inr (by decide)), st_same]
    have j1 : M (54 + 8 * N + F.length) 1 = q - b := by rw [← hM, st_ne (Or.inr (by decide)), st_ne (Or.inr (by decide)), st_same]
    have j2 : M (54 + 8 * N + F.length) 2 = mem 4 1 := by rw [← hM, st_ne (Or.inr (by decide)), st_same]
    have j3 : M (54 + 8 * N + F.length) 3 = e - q - 1 := by rw [← hM, st_same]
    have x3 := x0 3 (by omega) (by omega)
    have x11 := x0 11 (by omega) (by omega)
    have x4 := x0 4 (by omega) (by omega)
    have x12 := x0 12 (by omega) (by omega)
    have hS : ((slc (mem 11) (q + 1) e).length : Int) = e - q - 1 := by rw [slc_lenI (by omega)]; omega
    have hSb : ∀ c ∈ slc (mem 11) (q + 1) e, 0 ≤ c ∧ c ≤ 255 := slc_by (fun i i0 i1 => hw.2.2.2 i (by omega) (by omega))
    have hNl : ((slc (mem 11) b q).length : Int) = q - b := slc_lenI (by omega)
    generalize hSl : slc (mem 11) (q + 1) e = S at *
    have h4M : bw_ M 4 := h4.mov x4 x12
    obtain ⟨f1, f2, f3, f4⟩ := bL_fit (r := 4) S M (by rw [x4]; exact h40) (by rw [hl4, x4]; omega)
    have hw4 := h4M.bL hSb (by rw [hl4, x4]; omega)
    have hu4 := up_.bL (m := M) (r := 4) (A := S) (by rw [x4]; exact h40) (by rw [hl4, x4]; omega)
    have rr : ∀ r : Nat, r ≠ 4 → r ≠ 12 → bL_ M 4 S r = M r := fun r x y => bL_row x y _ _
    have hu : up_ mem (bL_ M 4 S) 4 := (up_.same (by rw [x4]) x12 : up_ mem M 4).trans hu4
    refine jj_aload_n h d_T_beginField_154 rfl ⟨_, rfl⟩ ?_
    refine jj_g_T_values h  fl_T_20 d_T_beginField_155 ?_
    refine jj_aload_n h d_T_beginField_158 rfl ⟨_, rfl⟩ ?_
    refine jj_g_T_source h  fl_T_14 d_T_beginField_159 ?_
    refine jj_iload h d_T_beginField_162 rfl ?_
    refine jj_iconst h d_T_beginField_164 ?_
    refine jj_iadd h d_T_beginField_165 ?_
    refine jj_iload_n h d_T_beginField_166 rfl ?_
    refine jj_callV h (cB_putRange (r := 4) ⟨by decide, by decide⟩ (hw.mov x3 x11) (by decide) (by rw [x4]; exact h40) (by rw [x4, hl4]; omega) (by omega) (by omega) (by rw [x3]; exact e1)) cv_T_71 (ro_of he (by first | decide | omega) (by decide)) rfl rfl (by unfold mt_N; omega) (ce_B (by omega)) rfl rfl (Nat.le_of_ble_eq_true rfl) d_T_beginField_167 (fun v m167 hv => ?_)
    obtain ⟨rfl, hv⟩ := hv
    rw [show M (3 + 8) = mem 11 from x11, hSl] at hv
    subst hv
    refine jj_iconst h d_T_beginField_170 ?_
    refine jj_zret h he (by omega) d_T_beginField_171 ?_
    refine ⟨fun _ => ⟨rfl, ?_, ?_, hw4, ?_⟩, fun z => absurd ⟨by omega, k4⟩ z⟩
    · rw [k3, show b + (q - b) = q by omega, hSl]
      have hBl : (F ++ [(slc (mem 11) b q, S)]).length = F.length + 1 := by rw [List.length_append]; rfl
      refine ⟨⟨by rw [rr _ (by omega) (by omega), xk12, hBl]; omega, by rw [hBl]; omega, fun f p hp => ?_⟩, fun _ => ?_⟩
      · rcases get_snoc hp with ⟨hf9, hp⟩ | ⟨rfl, rfl⟩
        · exact (c3 f p hp).mov (by rw [rr _ (by omega) (by omega), x0 _ (by omega) (by omega)]) (by rw [rr _ (by decide) (by decide), x3]) (by rw [rr _ (by decide) (by decide), x11]) hu
        · unfold cF
          rw [rr (54 + 8 * N + F.length) (by omega) (by omega), rr 3 (by decide) (by decide), rr 11 (by decide) (by decide), j0, j1, j2, j3, x3, x11]
          refine ⟨⟨b0, hNl.symm, by show b + ((slc (mem 11) b q).length : Int) ≤ _; omega, ?_⟩, h40, hS.symm, ?_, ?_⟩
          · show slc (mem 11) b (b + ((slc (mem 11) b q).length : Int)) = slc (mem 11) b q
            rw [hNl, show b + (q - b) = q by omega]
          · show mem 4 1 + (S.length : Int) ≤ _
            rw [f1, x4]; exact Int.le_refl _
          · have := f4
            rw [x4] at this
            exact this
      · rw [hBl, show F.length + 1 - 1 = F.length by omega, rr (54 + 8 * N + F.length) (by omega) (by omega), j2, j3, f1, x4]; omega
    · exact ⟨fun r a c d w => by rw [rr r a c, x0 r d (by omega)], fun z hz => by rw [rr _ (by omega) (by omega), xk z hz], hu⟩
    · rw [f1, x4]; omega
  have at39 : ∀ q : Int, b ≤ q → q ≤ e → (ns = if q < e ∧ mem 11 q = 58 then q - b else 0) → ∀ x6 x7, JJ G X 0 0 mem 39 [some (vr G 17), some (vr G (22 + N)), some (vi b), some (vi e), some (vi q), some (vi q), x6, x7] [] := by
    intro q k1 k2 k3 x6 x7
    have no : ¬ (b < q ∧ q < e ∧ mem 11 q = 58 ∧ F.length < 8) → ((0 < ns ∧ F.length < 8 → (some (vi 0) : Option Value) = some (vi 1) ∧ oG mem N (F ++ [(slc (mem 11) b (b + ns), slc (mem 11) (b + ns + 1) e)]) ∧ fG N mem mem ∧ bw_ mem 4 ∧ mem 4 1 ≤ mem 4 1 + (e - b)) ∧ (¬ (0 < ns ∧ F.length < 8) → (some (vi 0) : Option Value) = some (vi 0) ∧ mem = mem)) := by
      intro z
      refine ⟨fun y => absurd ?_ z, fun _ => ⟨rfl, rfl⟩⟩
      by_cases w : q < e ∧ mem 11 q = 58
      · rw [if_pos w] at k3; exact ⟨by omega, w.1, w.2, y.2⟩
      · rw [if_neg w] at k3; omega
    have hby : q < e → 0 ≤ mem 11 q ∧ mem 11 q ≤ 255 := fun z => hw.2.2.2 q (by omega) (by omega)
    refine jj_iload h d_T_beginField_39 rfl ?_
    refine jj_iload_n h d_T_beginField_41 rfl ?_
    refine jj_icmp_le h 69 d_T_beginField_42 (by decide) ⟨by omega, by omega⟩ ⟨by omega, by omega⟩ (fun q42 => ?_) (fun q42 => ?_)
    · refine jj_iconst h d_T_beginField_69 ?_
      refine jj_istore h d_T_beginField_70 (Nat.le_of_ble_eq_true rfl) rfl ?_
      refine jj_aload_n h d_T_beginField_72 rfl ⟨_, rfl⟩ ?_
      refine jj_g_E_fieldCount h (by omega) fl_T_144 d_T_beginField_73 ?_
      try simp only [c1]
      refine jj_istore h d_T_beginField_76 (Nat.le_of_ble_eq_true rfl) rfl ?_
      refine jj_iload h d_T_beginField_78 rfl ?_
      refine jj_if_eq h 95 d_T_beginField_80 (by decide) ⟨by decide, by decide⟩ (fun _ => ?_) (fun q80 => absurd (rfl) q80)
      refine jj_iconst h d_T_beginField_95 ?_
      refine jj_zret h he (by omega) d_T_beginField_96 ?_
      exact no (fun z => by omega)
    · refine jj_iload h d_T_beginField_45 rfl ?_
      refine jj_iload_n h d_T_beginField_47 rfl ?_
      refine jj_icmp_ge h 69 d_T_beginField_48 (by decide) ⟨by omega, by omega⟩ ⟨by omega, by omega⟩ (fun q48 => ?_) (fun q48 => ?_)
      · refine jj_iconst h d_T_beginField_69 ?_
        refine jj_istore h d_T_beginField_70 (Nat.le_of_ble_eq_true rfl) rfl ?_
        refine jj_aload_n h d_T_beginField_72 rfl ⟨_, rfl⟩ ?_
        refine jj_g_E_fieldCount h (by omega) fl_T_144 d_T_beginField_73 ?_
        try simp only [c1]
        refine jj_istore h d_T_beginField_76 (Nat.le_of_ble_eq_true rfl) rfl ?_
        refine jj_iload h d_T_beginField_78 rfl ?_
        refine jj_if_eq h 95 d_T_beginField_80 (by decide) ⟨by decide, by decide⟩ (fun _ => ?_) (fun q80 => absurd (rfl) q80)
        refine jj_iconst h d_T_beginField_95 ?_
        refine jj_zret h he (by omega) d_T_beginField_96 ?_
        exact no (fun z => by omega)
      · refine jj_aload_n h d_T_beginField_51 rfl ⟨_, rfl⟩ ?_
        refine jj_g_T_source h  fl_T_14 d_T_beginField_52 ?_
        try simp only [c1]
        refine jj_iload h d_T_beginField_55 rfl ?_
        refine jj_callV h (cB_in hw (by omega) (by omega)) cv_T_129 (ro_of he (by first | decide | omega) (by decide)) rfl rfl (by unfold mt_N; omega) (ce_B (by omega)) rfl rfl (Nat.le_of_ble_eq_true rfl) d_T_beginField_57 (fun v m57 hv => ?_)
        obtain ⟨rfl, rfl⟩ := hv
        show JJ G X 0 0 mem _ _ (vi (mem 11 q) :: _)
        have hby9 := hby (by omega)
        refine jj_bipush h d_T_beginField_60 (by decide) ?_
        refine jj_icmp_ne h 69 d_T_beginField_62 (by decide) ⟨by omega, by omega⟩ ⟨by omega, by omega⟩ (fun q62 => ?_) (fun q62 => ?_)
        · refine jj_iconst h d_T_beginField_69 ?_
          refine jj_istore h d_T_beginField_70 (Nat.le_of_ble_eq_true rfl) rfl ?_
          refine jj_aload_n h d_T_beginField_72 rfl ⟨_, rfl⟩ ?_
          refine jj_g_E_fieldCount h (by omega) fl_T_144 d_T_beginField_73 ?_
          try simp only [c1]
          refine jj_istore h d_T_beginField_76 (Nat.le_of_ble_eq_true rfl) rfl ?_
          refine jj_iload h d_T_beginField_78 rfl ?_
          refine jj_if_eq h 95 d_T_beginField_80 (by decide) ⟨by decide, by decide⟩ (fun _ => ?_) (fun q80 => absurd (rfl) q80)
          refine jj_iconst h d_T_beginField_95 ?_
          refine jj_zret h he (by omega) d_T_beginField_96 ?_
          exact no (fun z => q62 z.2.2.1)
        · refine jj_iconst h d_T_beginField_65 ?_
          refine jj_goto h 70 d_T_beginField_66 (by decide) ?_
          refine jj_istore h d_T_beginField_70 (Nat.le_of_ble_eq_true rfl) rfl ?_
          refine jj_aload_n h d_T_beginField_72 rfl ⟨_, rfl⟩ ?_
          refine jj_g_E_fieldCount h (by omega) fl_T_144 d_T_beginField_73 ?_
          try simp only [c1]
          refine jj_istore h d_T_beginField_76 (Nat.le_of_ble_eq_true rfl) rfl ?_
          refine jj_iload h d_T_beginField_78 rfl ?_
          refine jj_if_eq h 95 d_T_beginField_80 (by decide) ⟨by decide, by decide⟩ (fun q80 => absurd q80 ((by decide))) (fun _ => ?_)
          refine jj_iload h d_T_beginField_83 rfl ?_
          refine jj_if_lt h 95 d_T_beginField_85 (by decide) ⟨by omega, by omega⟩ (fun q85 => absurd q85 (by omega)) (fun _ => ?_)
          refine jj_iload h d_T_beginField_88 rfl ?_
          refine jj_bipush h d_T_beginField_90 (by decide) ?_
          refine jj_icmp_lt h 97 d_T_beginField_92 (by decide) ⟨by omega, by omega⟩ ⟨by omega, by omega⟩ (fun q92 => ?_) (fun q92 => ?_)
          · refine jj_aload_n h d_T_beginField_97 rfl ⟨_, rfl⟩ ?_
            refine jj_g_E_fields h (by omega) fl_T_147 d_T_beginField_98 ?_
            try simp only [c1]
            refine jj_iload h d_T_beginField_101 rfl ?_
            refine jj_aF h hN (by omega) (by omega) d_T_beginField_103 ?_
            rw [show ((F.length : Int)).toNat = F.length from rfl]
            refine jj_astore h d_T_beginField_104 ⟨_, rfl⟩ (Nat.le_of_ble_eq_true rfl) rfl ?_
            refine jj_aload_n h d_T_beginField_106 rfl ⟨_, rfl⟩ ?_
            refine jj_dup h d_T_beginField_107 rfl ?_
            refine jj_g_E_fieldCount h (by omega) fl_T_144 d_T_beginField_108 ?_
            try simp only [c1]
            refine jj_iconst h d_T_beginField_111 ?_
            refine jj_iadd h d_T_beginField_112 ?_
            refine jj_p_E_fieldCount h (by omega) fl_T_144 d_T_beginField_113 ?_
            refine jj_aload h d_T_beginField_116 rfl ⟨_, rfl⟩ ?_
            refine jj_iload_n h d_T_beginField_118 rfl ?_
            refine jj_p_F_nameBegin h (by omega) fl_T_159 d_T_beginField_119 ?_
            refine jj_aload h d_T_beginField_122 rfl ⟨_, rfl⟩ ?_
            refine jj_iload h d_T_beginField_124 rfl ?_
            refine jj_iload_n h d_T_beginField_126 rfl ?_
            refine jj_isub h d_T_beginField_127 ?_
            refine jj_p_F_nameSize h (by omega) fl_T_162 d_T_beginField_128 ?_
            refine jj_aload h d_T_beginField_131 rfl ⟨_, rfl⟩ ?_
            refine jj_aload_n h d_T_beginField_133 rfl ⟨_, rfl⟩ ?_
            refine jj_g_T_values h  fl_T_20 d_T_beginField_134 ?_
            try simp only [c1]
            refine jj_g_B_size h (by omega) fl_T_68 d_T_beginField_137 ?_
            rw [st_row (by omega), st_row (by omega), st_row (by omega)]
            refine jj_p_F_valueBegin h (by omega) fl_T_165 d_T_beginField_140 ?_
            refine jj_aload h d_T_beginField_143 rfl ⟨_, rfl⟩ ?_
            refine jj_iload_n h d_T_beginField_145 rfl ?_
            refine jj_iload h d_T_beginField_146 rfl ?_
            refine jj_isub h d_T_beginField_148 ?_
            refine jj_iconst h d_T_beginField_149 ?_
            refine jj_isub h d_T_beginField_150 ?_
            refine jj_p_F_valueSize h (by omega) fl_T_151 d_T_beginField_151 ?_
            exact fin q _ (by omega) (by omega) (by rw [k3, if_pos ⟨by omega, by omega⟩]) (by omega) rfl
          · refine jj_iconst h d_T_beginField_95 ?_
            refine jj_zret h he (by omega) d_T_beginField_96 ?_
            exact no (fun z => by omega)
  have loop : ∀ (n : Nat) (q : Int), (e - q).toNat = n → b ≤ q → q ≤ e → ns = ns_ (mem 11) b e n q → ∀ x6 x7, JJ G X 0 0 mem 6 [some (vr G 17), some (vr G (22 + N)), some (vi b), some (vi e), some (vi q), some (vi q), x6, x7] [] := by
    intro n
    induction n with
    | zero =>
      intro q k1 k2 k3 k4 x6 x7
      refine jj_iload h d_T_beginField_6 rfl ?_
      refine jj_iload_n h d_T_beginField_8 rfl ?_
      refine jj_icmp_ge h 39 d_T_beginField_9 (by decide) ⟨by omega, by omega⟩ ⟨by omega, by omega⟩ (fun _ => ?_) (fun q9 => absurd (by omega) q9)
      exact at39 q k2 k3 (by rw [if_neg (by omega)]; exact k4) _ _
    | succ n ih =>
      intro q k1 k2 k3 k4 x6 x7
      have hby : 0 ≤ mem 11 q ∧ mem 11 q ≤ 255 := hw.2.2.2 q (by omega) (by omega)
      unfold ns_ at k4
      by_cases hn : 32 < mem 11 q ∧ mem 11 q < 127 ∧ mem 11 q ≠ 58
      · rw [if_pos hn] at k4
        refine jj_iload h d_T_beginField_6 rfl ?_
        refine jj_iload_n h d_T_beginField_8 rfl ?_
        refine jj_icmp_ge h 39 d_T_beginField_9 (by decide) ⟨by omega, by omega⟩ ⟨by omega, by omega⟩ (fun q9 => absurd q9 (by omega)) (fun _ => ?_)
        refine jj_aload_n h d_T_beginField_12 rfl ⟨_, rfl⟩ ?_
        refine jj_g_T_source h  fl_T_14 d_T_beginField_13 ?_
        refine jj_iload h d_T_beginField_16 rfl ?_
        refine jj_callV h (cB_in hw (by omega) (by omega)) cv_T_129 (ro_of he (by first | decide | omega) (by decide)) rfl rfl (by unfold mt_N; omega) (ce_B (by omega)) rfl rfl (Nat.le_of_ble_eq_true rfl) d_T_beginField_18 (fun v m18 hv => ?_)
        obtain ⟨rfl, rfl⟩ := hv
        show JJ G X 0 0 mem _ _ (vi (mem 11 q) :: _)
        refine jj_callN h (cX_isNameByte ⟨by omega, by omega⟩) cv_T_156 (ro_of he (by first | decide | omega) (by decide)) rfl rfl rfl (Nat.le_of_ble_eq_true rfl) d_T_beginField_21 (fun v m21 hv => ?_)
        obtain ⟨rfl, rfl⟩ := hv
        rw [if_pos hn]
        refine jj_if_eq h 39 d_T_beginField_24 (by decide) ⟨by omega, by omega⟩ (fun q24 => absurd q24 (by omega)) (fun _ => ?_)
        refine jj_iload h d_T_beginField_27 rfl ?_
        refine jj_iconst h d_T_beginField_29 ?_
        refine jj_iadd h d_T_beginField_30 ?_
        refine jj_istore h d_T_beginField_31 (Nat.le_of_ble_eq_true rfl) rfl ?_
        refine jj_iinc h d_T_beginField_33 rfl rfl ?_
        refine jj_goto h 6 d_T_beginField_36 (by decide) ?_
        exact ih (q + 1) (by omega) (by omega) (by omega) k4 _ _
      · rw [if_neg hn] at k4
        refine jj_iload h d_T_beginField_6 rfl ?_
        refine jj_iload_n h d_T_beginField_8 rfl ?_
        refine jj_icmp_ge h 39 d_T_beginField_9 (by decide) ⟨by omega, by omega⟩ ⟨by omega, by omega⟩ (fun q9 => absurd q9 (by omega)) (fun _ => ?_)
        refine jj_aload_n h d_T_beginField_12 rfl ⟨_, rfl⟩ ?_
        refine jj_g_T_source h  fl_T_14 d_T_beginField_13 ?_
        refine jj_iload h d_T_beginField_16 rfl ?_
        refine jj_callV h (cB_in hw (by omega) (by omega)) cv_T_129 (ro_of he (by first | decide | omega) (by decide)) rfl rfl (by unfold mt_N; omega) (ce_B (by omega)) rfl rfl (Nat.le_of_ble_eq_true rfl) d_T_beginField_18 (fun v m18 hv => ?_)
        obtain ⟨rfl, rfl⟩ := hv
        show JJ G X 0 0 mem _ _ (vi (mem 11 q) :: _)
        refine jj_callN h (cX_isNameByte ⟨by omega, by omega⟩) cv_T_156 (ro_of he (by first | decide | omega) (by decide)) rfl rfl rfl (Nat.le_of_ble_eq_true rfl) d_T_beginField_21 (fun v m21 hv => ?_)
        obtain ⟨rfl, rfl⟩ := hv
        rw [if_neg hn]
        refine jj_if_eq h 39 d_T_beginField_24 (by decide) ⟨by omega, by omega⟩ (fun _ => ?_) (fun q24 => absurd (by omega) q24)
        refine at39 q k2 k3 ?_ _ _
        rw [k4]
        by_cases w : mem 11 q = 58
        · rw [if_pos w, if_pos ⟨by omega, w⟩]
        · rw [if_neg w, if_neg (fun z => w z.2)]
  refine jj_iload_n h d_T_beginField_0 rfl ?_
  refine jj_istore h d_T_beginField_1 (Nat.le_of_ble_eq_true rfl) rfl ?_
  refine jj_iload_n h d_T_beginField_3 rfl ?_
  refine jj_istore h d_T_beginField_4 (Nat.le_of_ble_eq_true rfl) rfl ?_
  exact loop _ b rfl (Int.le_refl _) b1 hns.symm _ _
theorem nsz_bl {f : Int → Int} {p e : Int} (hp : p < e) (hb : bl_ (f p)) : nameSize_ f p e = 0 := by
  unfold nameSize_
  obtain ⟨n, hn⟩ : ∃ n, (e - p).toNat = n + 1 := ⟨(e - p).toNat - 1, by omega⟩
  rw [hn]
  show (if 32 < f p ∧ f p < 127 ∧ f p ≠ 58 then ns_ f p e n (p + 1) else if f p = 58 then p - p else 0) = 0
  rw [if_neg (by rcases hb with h | h <;> omega), if_neg (by rcases hb with h | h <;> omega)]
theorem cT_readFields {G : mt_G} {l : Launch} {mem : mt_M} {N : Nat} {b e : Int} (hN : N < 16) (hw : bw_ mem 3) (h4 : bw_ mem 4) (hb5 : mem (22 + N) 5 = b) (he7 : mem (22 + N) 7 = e) (h12 : mem (22 + N) 12 = 0) (b0 : 0 ≤ b) (b1 : b ≤ e) (e1 : e ≤ mem 3 1) (hf : mem 4 1 + (e - b) ≤ 320) : CT G l y_T_readFields c_T_readFields 7 (some .int) 4 [vr G 17, vr G (22 + N)] mem (fun v m' => v = some (vi (fl1 (mem 11) e ((e - b).toNat + 1) b []).2) ∧ cG m' N (fl1 (mem 11) e ((e - b).toNat + 1) b []).1 ∧ fG N mem m' ∧ bw_ m' 4 ∧ m' 4 1 ≤ mem 4 1 + ((fl1 (mem 11) e ((e - b).toNat + 1) b []).2 - b)) := by
  have hsz := hw.2.2.1
  have hl9 : ln_ (3 + 8) = 320 := rfl
  refine CT.intro (by decide) rfl (Nat.le_of_ble_eq_true rfl) (fun X h he => ?_)
  generalize hR : fl1 (mem 11) e ((e - b).toNat + 1) b [] = R at *
  have loop : ∀ (n : Nat) (p t : Int) (k : Nat) (acc : List (List Int × List Int)) (m : mt_M) (x4 x5 x6 : Option Value), (e - p).toNat ≤ n → b ≤ p → p ≤ e → 0 ≤ t → t ≤ p - b → (e - p).toNat + 1 ≤ k → R = fl1 (mem 11) e k p acc → oG m N acc → fG N mem m → bw_ m 4 → m 4 1 ≤ mem 4 1 + (p - b) → JJ G X 0 0 m 7 [some (vr G 17), some (vr G (22 + N)), some (vi p), some (vi t), x4, x5, x6] [] := by
    intro n
    induction n with
    | zero =>
      intro p t k acc m x4 x5 x6 k1 k2 k3 k4 k5 k6 k7 k8 k9 k10 k11
      obtain ⟨k, rfl⟩ : ∃ k', k = k' + 1 := ⟨k - 1, by omega⟩
      rw [fl1, if_pos (by omega)] at k7
      have s7 : m (22 + N) 7 = e := by rw [k9.2.1 7 (by decide)]; exact he7
      subst k7
      refine jj_iload_n h d_T_readFields_7 rfl ?_
      refine jj_sipush h d_T_readFields_8 (by decide) ?_
      refine jj_icmp_ge h 108 d_T_readFields_11 (by decide) ⟨by omega, by omega⟩ ⟨by omega, by omega⟩ (fun q11 => ?_) (fun q11 => ?_)
      · refine jj_iload_n h d_T_readFields_108 rfl ?_
        refine jj_iret h he d_T_readFields_109 ?_
        exact ⟨by show some (vi p) = some (vi e); rw [show p = e by omega], k8.1, k9, k10, by show m 4 1 ≤ mem 4 1 + (e - b); omega⟩
      · refine jj_iload_n h d_T_readFields_14 rfl ?_
        refine jj_aload_n h d_T_readFields_15 rfl ⟨_, rfl⟩ ?_
        refine jj_g_E_end h (by omega) fl_T_119 d_T_readFields_16 ?_
        try simp only [s7]
        refine jj_icmp_ge h 108 d_T_readFields_19 (by decide) ⟨by omega, by omega⟩ ⟨by omega, by omega⟩ (fun _ => ?_) (fun q19 => absurd (by omega) q19)
        refine jj_iload_n h d_T_readFields_108 rfl ?_
        refine jj_iret h he d_T_readFields_109 ?_
        exact ⟨by show some (vi p) = some (vi e); rw [show p = e by omega], k8.1, k9, k10, by show m 4 1 ≤ mem 4 1 + (e - b); omega⟩
    | succ n ih =>
      intro p t k acc m x4 x5 x6 k1 k2 k3 k4 k5 k6 k7 k8 k9 k10 k11
      obtain ⟨k, rfl⟩ : ∃ k', k = k' + 1 := ⟨k - 1, by omega⟩
      have s7 : m (22 + N) 7 = e := by rw [k9.2.1 7 (by decide)]; exact he7
      have r3 : m 3 = mem 3 := k9.1 3 (by decide) (by decide) (by omega) (by omega)
      have r11 : m 11 = mem 11 := k9.1 11 (by decide) (by decide) (by omega) (by omega)
      have hwm : bw_ m 3 := hw.mov r3 r11
      by_cases hpe : e ≤ p
      · rw [fl1, if_pos hpe] at k7
        subst k7
        refine jj_iload_n h d_T_readFields_7 rfl ?_
        refine jj_sipush h d_T_readFields_8 (by decide) ?_
        refine jj_icmp_ge h 108 d_T_readFields_11 (by decide) ⟨by omega, by omega⟩ ⟨by omega, by omega⟩ (fun q11 => ?_) (fun q11 => ?_)
        · refine jj_iload_n h d_T_readFields_108 rfl ?_
          refine jj_iret h he d_T_readFields_109 ?_
          exact ⟨by show some (vi p) = some (vi e); rw [show p = e by omega], k8.1, k9, k10, by show m 4 1 ≤ mem 4 1 + (e - b); omega⟩
        · refine jj_iload_n h d_T_readFields_14 rfl ?_
          refine jj_aload_n h d_T_readFields_15 rfl ⟨_, rfl⟩ ?_
          refine jj_g_E_end h (by omega) fl_T_119 d_T_readFields_16 ?_
          try simp only [s7]
          refine jj_icmp_ge h 108 d_T_readFields_19 (by decide) ⟨by omega, by omega⟩ ⟨by omega, by omega⟩ (fun _ => ?_) (fun q19 => absurd (by omega) q19)
          refine jj_iload_n h d_T_readFields_108 rfl ?_
          refine jj_iret h he d_T_readFields_109 ?_
          exact ⟨by show some (vi p) = some (vi e); rw [show p = e by omega], k8.1, k9, k10, by show m 4 1 ≤ mem 4 1 + (e - b); omega⟩
      rw [fl1, if_neg hpe] at k7
      have hle := lineEnd_b (f := mem 11) (e := e) _ p rfl k3
      have hte := textEnd_b (f := mem 11) (p := p) (e := e) k3
      have hby : 0 ≤ mem 11 p ∧ mem 11 p ≤ 255 := hw.2.2.2 p (by omega) (by omega)
      have hbl := nsz_bl (f := mem 11) (p := p) (e := textEnd_ (mem 11) p e)
      have hT := fun hL => cB_textEnd (G := G) (l := X.2.1) (p := p) (e := e) (L := lineEnd_ (mem 11) p e) hwm (by omega) (by omega) (by rw [r3]; omega) hL
      have hL9 : lineEnd_ (m (3 + 8)) p e = lineEnd_ (mem 11) p e := by rw [show m (3 + 8) = mem 11 from r11]
      have hT := hT hL9
      rw [show m (3 + 8) = mem 11 from r11] at hT
      generalize hLe : lineEnd_ (mem 11) p e = le at *
      generalize hTe : textEnd_ (mem 11) p e = te at *
      by_cases h0 : te = p
      · rw [if_pos h0] at k7
        subst k7
        refine jj_iload_n h d_T_readFields_7 rfl ?_
        refine jj_sipush h d_T_readFields_8 (by decide) ?_
        refine jj_icmp_ge h 108 d_T_readFields_11 (by decide) ⟨by omega, by omega⟩ ⟨by omega, by omega⟩ (fun q11 => absurd q11 (by omega)) (fun _ => ?_)
        refine jj_iload_n h d_T_readFields_14 rfl ?_
        refine jj_aload_n h d_T_readFields_15 rfl ⟨_, rfl⟩ ?_
        refine jj_g_E_end h (by omega) fl_T_119 d_T_readFields_16 ?_
        try simp only [s7]
        refine jj_icmp_ge h 108 d_T_readFields_19 (by decide) ⟨by omega, by omega⟩ ⟨by omega, by omega⟩ (fun q19 => absurd q19 (by omega)) (fun _ => ?_)
        refine jj_aload_n h d_T_readFields_22 rfl ⟨_, rfl⟩ ?_
        refine jj_g_T_source h  fl_T_14 d_T_readFields_23 ?_
        try simp only [s7]
        refine jj_iload_n h d_T_readFields_26 rfl ?_
        refine jj_aload_n h d_T_readFields_27 rfl ⟨_, rfl⟩ ?_
        refine jj_g_E_end h (by omega) fl_T_119 d_T_readFields_28 ?_
        try simp only [s7]
        refine jj_callV h (cB_lineEnd hwm (by omega) (by omega) (by rw [r3]; omega)) cv_T_122 (ro_of he (by first | decide | omega) (by decide)) rfl rfl (by unfold mt_N; omega) (ce_B (by omega)) rfl rfl (Nat.le_of_ble_eq_true rfl) d_T_readFields_31 (fun v m31 hv => ?_)
        obtain ⟨rfl, rfl⟩ := hv
        rw [hL9]
        refine jj_istore h d_T_readFields_34 (Nat.le_of_ble_eq_true rfl) rfl ?_
        refine jj_aload_n h d_T_readFields_36 rfl ⟨_, rfl⟩ ?_
        refine jj_g_T_source h  fl_T_14 d_T_readFields_37 ?_
        try simp only [s7]
        refine jj_iload_n h d_T_readFields_40 rfl ?_
        refine jj_iload h d_T_readFields_41 rfl ?_
        refine jj_callV h (hT) cv_T_126 (ro_of he (by first | decide | omega) (by decide)) rfl rfl (by unfold mt_N; omega) (ce_B (by omega)) rfl rfl (Nat.le_of_ble_eq_true rfl) d_T_readFields_43 (fun v m43 hv => ?_)
        obtain ⟨rfl, rfl⟩ := hv
        refine jj_istore h d_T_readFields_46 (Nat.le_of_ble_eq_true rfl) rfl ?_
        refine jj_iload h d_T_readFields_48 rfl ?_
        refine jj_iload_n h d_T_readFields_50 rfl ?_
        refine jj_icmp_ne h 57 d_T_readFields_51 (by decide) ⟨by omega, by omega⟩ ⟨by omega, by omega⟩ (fun q51 => absurd (h0) q51) (fun _ => ?_)
        refine jj_iload h d_T_readFields_54 rfl ?_
        refine jj_iret h he d_T_readFields_56 ?_
        exact ⟨rfl, k8.1, k9, k10, by show m 4 1 ≤ mem 4 1 + (le - b); omega⟩
      rw [if_neg h0] at k7
      have hct : m 4 1 + (te - p) ≤ 320 := by omega
      by_cases hB : bl_ (mem 11 p)
      · rw [hbl (by omega) hB, if_neg (fun z => absurd z.1 (by decide))] at k7
        have hgo := cT_goOn (G := G) (l := X.2.1) hN k8 hwm k10 (show 0 ≤ p by omega) (show p ≤ te by omega) (by rw [r3]; omega) hct
        rw [r11] at hgo
        by_cases hA : acc = []
        · rw [if_neg (fun z => z.2 hA)] at k7
          subst k7
          refine jj_iload_n h d_T_readFields_7 rfl ?_
          refine jj_sipush h d_T_readFields_8 (by decide) ?_
          refine jj_icmp_ge h 108 d_T_readFields_11 (by decide) ⟨by omega, by omega⟩ ⟨by omega, by omega⟩ (fun q11 => absurd q11 (by omega)) (fun _ => ?_)
          refine jj_iload_n h d_T_readFields_14 rfl ?_
          refine jj_aload_n h d_T_readFields_15 rfl ⟨_, rfl⟩ ?_
          refine jj_g_E_end h (by omega) fl_T_119 d_T_readFields_16 ?_
          try simp only [s7]
          refine jj_icmp_ge h 108 d_T_readFields_19 (by decide) ⟨by omega, by omega⟩ ⟨by omega, by omega⟩ (fun q19 => absurd q19 (by omega)) (fun _ => ?_)
          refine jj_aload_n h d_T_readFields_22 rfl ⟨_, rfl⟩ ?_
          refine jj_g_T_source h  fl_T_14 d_T_readFields_23 ?_
          try simp only [s7]
          refine jj_iload_n h d_T_readFields_26 rfl ?_
          refine jj_aload_n h d_T_readFields_27 rfl ⟨_, rfl⟩ ?_
          refine jj_g_E_end h (by omega) fl_T_119 d_T_readFields_28 ?_
          try simp only [s7]
          refine jj_callV h (cB_lineEnd hwm (by omega) (by omega) (by rw [r3]; omega)) cv_T_122 (ro_of he (by first | decide | omega) (by decide)) rfl rfl (by unfold mt_N; omega) (ce_B (by omega)) rfl rfl (Nat.le_of_ble_eq_true rfl) d_T_readFields_31 (fun v m31 hv => ?_)
          obtain ⟨rfl, rfl⟩ := hv
          rw [hL9]
          refine jj_istore h d_T_readFields_34 (Nat.le_of_ble_eq_true rfl) rfl ?_
          refine jj_aload_n h d_T_readFields_36 rfl ⟨_, rfl⟩ ?_
          refine jj_g_T_source h  fl_T_14 d_T_readFields_37 ?_
          try simp only [s7]
          refine jj_iload_n h d_T_readFields_40 rfl ?_
          refine jj_iload h d_T_readFields_41 rfl ?_
          refine jj_callV h (hT) cv_T_126 (ro_of he (by first | decide | omega) (by decide)) rfl rfl (by unfold mt_N; omega) (ce_B (by omega)) rfl rfl (Nat.le_of_ble_eq_true rfl) d_T_readFields_43 (fun v m43 hv => ?_)
          obtain ⟨rfl, rfl⟩ := hv
          refine jj_istore h d_T_readFields_46 (Nat.le_of_ble_eq_true rfl) rfl ?_
          refine jj_iload h d_T_readFields_48 rfl ?_
          refine jj_iload_n h d_T_readFields_50 rfl ?_
          refine jj_icmp_ne h 57 d_T_readFields_51 (by decide) ⟨by omega, by omega⟩ ⟨by omega, by omega⟩ (fun _ => ?_) (fun q51 => absurd q51 (h0))
          refine jj_aload_n h d_T_readFields_57 rfl ⟨_, rfl⟩ ?_
          refine jj_g_T_source h  fl_T_14 d_T_readFields_58 ?_
          try simp only [s7]
          refine jj_iload_n h d_T_readFields_61 rfl ?_
          refine jj_callV h (cB_in hwm (by omega) (by rw [r3]; omega)) cv_T_129 (ro_of he (by first | decide | omega) (by decide)) rfl rfl (by unfold mt_N; omega) (ce_B (by omega)) rfl rfl (Nat.le_of_ble_eq_true rfl) d_T_readFields_62 (fun v m62 hv => ?_)
          obtain ⟨rfl, rfl⟩ := hv
          show JJ G X 0 0 m _ _ (vi (m 11 p) :: _)
          rw [r11]
          refine jj_callN h (cX_isBlank ⟨by omega, by omega⟩) cv_T_133 (ro_of he (by first | decide | omega) (by decide)) rfl rfl rfl (Nat.le_of_ble_eq_true rfl) d_T_readFields_65 (fun v m65 hv => ?_)
          obtain ⟨rfl, rfl⟩ := hv
          rw [if_pos hB]
          refine jj_if_eq h 82 d_T_readFields_68 (by decide) ⟨by omega, by omega⟩ (fun q68 => absurd q68 (by omega)) (fun _ => ?_)
          refine jj_aload_n h d_T_readFields_71 rfl ⟨_, rfl⟩ ?_
          refine jj_aload_n h d_T_readFields_72 rfl ⟨_, rfl⟩ ?_
          refine jj_iload_n h d_T_readFields_73 rfl ?_
          refine jj_iload h d_T_readFields_74 rfl ?_
          refine jj_callV h (hgo) cv_T_137 (ro_of he (by first | decide | omega) (by decide)) rfl rfl (by decide) rfl rfl rfl (Nat.le_of_ble_eq_true rfl) d_T_readFields_76 (fun v m76 hv => ?_)
          obtain ⟨rfl, rfl⟩ := hv.1 hA
          refine jj_goto h 90 d_T_readFields_79 (by decide) ?_
          refine jj_istore h d_T_readFields_90 (Nat.le_of_ble_eq_true rfl) rfl ?_
          refine jj_iload h d_T_readFields_92 rfl ?_
          refine jj_if_ne h 99 d_T_readFields_94 (by decide) ⟨by omega, by omega⟩ (fun q94 => absurd (by omega) q94) (fun _ => ?_)
          refine jj_iload_n h d_T_readFields_97 rfl ?_
          refine jj_iret h he d_T_readFields_98 ?_
          exact ⟨rfl, k8.1, k9, k10, by show m 4 1 ≤ mem 4 1 + (p - b); omega⟩
        · rw [if_pos ⟨hB, hA⟩] at k7
          refine jj_iload_n h d_T_readFields_7 rfl ?_
          refine jj_sipush h d_T_readFields_8 (by decide) ?_
          refine jj_icmp_ge h 108 d_T_readFields_11 (by decide) ⟨by omega, by omega⟩ ⟨by omega, by omega⟩ (fun q11 => absurd q11 (by omega)) (fun _ => ?_)
          refine jj_iload_n h d_T_readFields_14 rfl ?_
          refine jj_aload_n h d_T_readFields_15 rfl ⟨_, rfl⟩ ?_
          refine jj_g_E_end h (by omega) fl_T_119 d_T_readFields_16 ?_
          try simp only [s7]
          refine jj_icmp_ge h 108 d_T_readFields_19 (by decide) ⟨by omega, by omega⟩ ⟨by omega, by omega⟩ (fun q19 => absurd q19 (by omega)) (fun _ => ?_)
          refine jj_aload_n h d_T_readFields_22 rfl ⟨_, rfl⟩ ?_
          refine jj_g_T_source h  fl_T_14 d_T_readFields_23 ?_
          try simp only [s7]
          refine jj_iload_n h d_T_readFields_26 rfl ?_
          refine jj_aload_n h d_T_readFields_27 rfl ⟨_, rfl⟩ ?_
          refine jj_g_E_end h (by omega) fl_T_119 d_T_readFields_28 ?_
          try simp only [s7]
          refine jj_callV h (cB_lineEnd hwm (by omega) (by omega) (by rw [r3]; omega)) cv_T_122 (ro_of he (by first | decide | omega) (by decide)) rfl rfl (by unfold mt_N; omega) (ce_B (by omega)) rfl rfl (Nat.le_of_ble_eq_true rfl) d_T_readFields_31 (fun v m31 hv => ?_)
          obtain ⟨rfl, rfl⟩ := hv
          rw [hL9]
          refine jj_istore h d_T_readFields_34 (Nat.le_of_ble_eq_true rfl) rfl ?_
          refine jj_aload_n h d_T_readFields_36 rfl ⟨_, rfl⟩ ?_
          refine jj_g_T_source h  fl_T_14 d_T_readFields_37 ?_
          try simp only [s7]
          refine jj_iload_n h d_T_readFields_40 rfl ?_
          refine jj_iload h d_T_readFields_41 rfl ?_
          refine jj_callV h (hT) cv_T_126 (ro_of he (by first | decide | omega) (by decide)) rfl rfl (by unfold mt_N; omega) (ce_B (by omega)) rfl rfl (Nat.le_of_ble_eq_true rfl) d_T_readFields_43 (fun v m43 hv => ?_)
          obtain ⟨rfl, rfl⟩ := hv
          refine jj_istore h d_T_readFields_46 (Nat.le_of_ble_eq_true rfl) rfl ?_
          refine jj_iload h d_T_readFields_48 rfl ?_
          refine jj_iload_n h d_T_readFields_50 rfl ?_
          refine jj_icmp_ne h 57 d_T_readFields_51 (by decide) ⟨by omega, by omega⟩ ⟨by omega, by omega⟩ (fun _ => ?_) (fun q51 => absurd q51 (h0))
          refine jj_aload_n h d_T_readFields_57 rfl ⟨_, rfl⟩ ?_
          refine jj_g_T_source h  fl_T_14 d_T_readFields_58 ?_
          try simp only [s7]
          refine jj_iload_n h d_T_readFields_61 rfl ?_
          refine jj_callV h (cB_in hwm (by omega) (by rw [r3]; omega)) cv_T_129 (ro_of he (by first | decide | omega) (by decide)) rfl rfl (by unfold mt_N; omega) (ce_B (by omega)) rfl rfl (Nat.le_of_ble_eq_true rfl) d_T_readFields_62 (fun v m62 hv => ?_)
          obtain ⟨rfl, rfl⟩ := hv
          show JJ G X 0 0 m _ _ (vi (m 11 p) :: _)
          rw [r11]
          refine jj_callN h (cX_isBlank ⟨by omega, by omega⟩) cv_T_133 (ro_of he (by first | decide | omega) (by decide)) rfl rfl rfl (Nat.le_of_ble_eq_true rfl) d_T_readFields_65 (fun v m65 hv => ?_)
          obtain ⟨rfl, rfl⟩ := hv
          rw [if_pos hB]
          refine jj_if_eq h 82 d_T_readFields_68 (by decide) ⟨by omega, by omega⟩ (fun q68 => absurd q68 (by omega)) (fun _ => ?_)
          refine jj_aload_n h d_T_readFields_71 rfl ⟨_, rfl⟩ ?_
          refine jj_aload_n h d_T_readFields_72 rfl ⟨_, rfl⟩ ?_
          refine jj_iload_n h d_T_readFields_73 rfl ?_
          refine jj_iload h d_T_readFields_74 rfl ?_
          refine jj_callV h (hgo) cv_T_137 (ro_of he (by first | decide | omega) (by decide)) rfl rfl (by decide) rfl rfl rfl (Nat.le_of_ble_eq_true rfl) d_T_readFields_76 (fun v m76 hv => ?_)
          obtain ⟨rfl, g1, g2, g3, g4⟩ := hv.2 hA
          refine jj_goto h 90 d_T_readFields_79 (by decide) ?_
          refine jj_istore h d_T_readFields_90 (Nat.le_of_ble_eq_true rfl) rfl ?_
          refine jj_iload h d_T_readFields_92 rfl ?_
          refine jj_if_ne h 99 d_T_readFields_94 (by decide) ⟨by omega, by omega⟩ (fun _ => ?_) (fun q94 => absurd q94 (by omega))
          refine jj_iload h d_T_readFields_99 rfl ?_
          refine jj_istore_n h d_T_readFields_101 (Nat.le_of_ble_eq_true rfl) rfl ?_
          refine jj_iinc h d_T_readFields_102 rfl rfl ?_
          refine jj_goto h 7 d_T_readFields_105 (by decide) ?_
          exact ih le (t + 1) k _ _ _ _ _ (by omega) (by omega) (by omega) (by omega) (by omega) (by omega) k7 g1 (k9.trans g2) g3 (by omega)
      · have hbg := cT_begin (G := G) (l := X.2.1) hN k8 hwm k10 (show 0 ≤ p by omega) (show p ≤ te by omega) (by rw [r3]; omega) hct
        rw [r11] at hbg
        rw [if_neg (c := bl_ (mem 11 p) ∧ acc ≠ []) (fun z => hB z.1)] at k7
        by_cases hA : 0 < nameSize_ (mem 11) p te ∧ acc.length < 8
        · rw [if_pos hA] at k7
          refine jj_iload_n h d_T_readFields_7 rfl ?_
          refine jj_sipush h d_T_readFields_8 (by decide) ?_
          refine jj_icmp_ge h 108 d_T_readFields_11 (by decide) ⟨by omega, by omega⟩ ⟨by omega, by omega⟩ (fun q11 => absurd q11 (by omega)) (fun _ => ?_)
          refine jj_iload_n h d_T_readFields_14 rfl ?_
          refine jj_aload_n h d_T_readFields_15 rfl ⟨_, rfl⟩ ?_
          refine jj_g_E_end h (by omega) fl_T_119 d_T_readFields_16 ?_
          try simp only [s7]
          refine jj_icmp_ge h 108 d_T_readFields_19 (by decide) ⟨by omega, by omega⟩ ⟨by omega, by omega⟩ (fun q19 => absurd q19 (by omega)) (fun _ => ?_)
          refine jj_aload_n h d_T_readFields_22 rfl ⟨_, rfl⟩ ?_
          refine jj_g_T_source h  fl_T_14 d_T_readFields_23 ?_
          try simp only [s7]
          refine jj_iload_n h d_T_readFields_26 rfl ?_
          refine jj_aload_n h d_T_readFields_27 rfl ⟨_, rfl⟩ ?_
          refine jj_g_E_end h (by omega) fl_T_119 d_T_readFields_28 ?_
          try simp only [s7]
          refine jj_callV h (cB_lineEnd hwm (by omega) (by omega) (by rw [r3]; omega)) cv_T_122 (ro_of he (by first | decide | omega) (by decide)) rfl rfl (by unfold mt_N; omega) (ce_B (by omega)) rfl rfl (Nat.le_of_ble_eq_true rfl) d_T_readFields_31 (fun v m31 hv => ?_)
          obtain ⟨rfl, rfl⟩ := hv
          rw [hL9]
          refine jj_istore h d_T_readFields_34 (Nat.le_of_ble_eq_true rfl) rfl ?_
          refine jj_aload_n h d_T_readFields_36 rfl ⟨_, rfl⟩ ?_
          refine jj_g_T_source h  fl_T_14 d_T_readFields_37 ?_
          try simp only [s7]
          refine jj_iload_n h d_T_readFields_40 rfl ?_
          refine jj_iload h d_T_readFields_41 rfl ?_
          refine jj_callV h (hT) cv_T_126 (ro_of he (by first | decide | omega) (by decide)) rfl rfl (by unfold mt_N; omega) (ce_B (by omega)) rfl rfl (Nat.le_of_ble_eq_true rfl) d_T_readFields_43 (fun v m43 hv => ?_)
          obtain ⟨rfl, rfl⟩ := hv
          refine jj_istore h d_T_readFields_46 (Nat.le_of_ble_eq_true rfl) rfl ?_
          refine jj_iload h d_T_readFields_48 rfl ?_
          refine jj_iload_n h d_T_readFields_50 rfl ?_
          refine jj_icmp_ne h 57 d_T_readFields_51 (by decide) ⟨by omega, by omega⟩ ⟨by omega, by omega⟩ (fun _ => ?_) (fun q51 => absurd q51 (h0))
          refine jj_aload_n h d_T_readFields_57 rfl ⟨_, rfl⟩ ?_
          refine jj_g_T_source h  fl_T_14 d_T_readFields_58 ?_
          try simp only [s7]
          refine jj_iload_n h d_T_readFields_61 rfl ?_
          refine jj_callV h (cB_in hwm (by omega) (by rw [r3]; omega)) cv_T_129 (ro_of he (by first | decide | omega) (by decide)) rfl rfl (by unfold mt_N; omega) (ce_B (by omega)) rfl rfl (Nat.le_of_ble_eq_true rfl) d_T_readFields_62 (fun v m62 hv => ?_)
          obtain ⟨rfl, rfl⟩ := hv
          show JJ G X 0 0 m _ _ (vi (m 11 p) :: _)
          rw [r11]
          refine jj_callN h (cX_isBlank ⟨by omega, by omega⟩) cv_T_133 (ro_of he (by first | decide | omega) (by decide)) rfl rfl rfl (Nat.le_of_ble_eq_true rfl) d_T_readFields_65 (fun v m65 hv => ?_)
          obtain ⟨rfl, rfl⟩ := hv
          rw [if_neg hB]
          refine jj_if_eq h 82 d_T_readFields_68 (by decide) ⟨by omega, by omega⟩ (fun _ => ?_) (fun q68 => absurd (by omega) q68)
          refine jj_aload_n h d_T_readFields_82 rfl ⟨_, rfl⟩ ?_
          refine jj_aload_n h d_T_readFields_83 rfl ⟨_, rfl⟩ ?_
          refine jj_iload_n h d_T_readFields_84 rfl ?_
          refine jj_iload h d_T_readFields_85 rfl ?_
          refine jj_callV h (hbg) cv_T_141 (ro_of he (by first | decide | omega) (by decide)) rfl rfl (by decide) rfl rfl rfl (Nat.le_of_ble_eq_true rfl) d_T_readFields_87 (fun v m87 hv => ?_)
          obtain ⟨rfl, g1, g2, g3, g4⟩ := hv.1 hA
          refine jj_istore h d_T_readFields_90 (Nat.le_of_ble_eq_true rfl) rfl ?_
          refine jj_iload h d_T_readFields_92 rfl ?_
          refine jj_if_ne h 99 d_T_readFields_94 (by decide) ⟨by omega, by omega⟩ (fun _ => ?_) (fun q94 => absurd q94 (by omega))
          refine jj_iload h d_T_readFields_99 rfl ?_
          refine jj_istore_n h d_T_readFields_101 (Nat.le_of_ble_eq_true rfl) rfl ?_
          refine jj_iinc h d_T_readFields_102 rfl rfl ?_
          refine jj_goto h 7 d_T_readFields_105 (by decide) ?_
          exact ih le (t + 1) k _ _ _ _ _ (by omega) (by omega) (by omega) (by omega) (by omega) (by omega) k7 g1 (k9.trans g2) g3 (by omega)
        · rw [if_neg hA] at k7
          subst k7
          refine jj_iload_n h d_T_readFields_7 rfl ?_
          refine jj_sipush h d_T_readFields_8 (by decide) ?_
          refine jj_icmp_ge h 108 d_T_readFields_11 (by decide) ⟨by omega, by omega⟩ ⟨by omega, by omega⟩ (fun q11 => absurd q11 (by omega)) (fun _ => ?_)
          refine jj_iload_n h d_T_readFields_14 rfl ?_
          refine jj_aload_n h d_T_readFields_15 rfl ⟨_, rfl⟩ ?_
          refine jj_g_E_end h (by omega) fl_T_119 d_T_readFields_16 ?_
          try simp only [s7]
          refine jj_icmp_ge h 108 d_T_readFields_19 (by decide) ⟨by omega, by omega⟩ ⟨by omega, by omega⟩ (fun q19 => absurd q19 (by omega)) (fun _ => ?_)
          refine jj_aload_n h d_T_readFields_22 rfl ⟨_, rfl⟩ ?_
          refine jj_g_T_source h  fl_T_14 d_T_readFields_23 ?_
          try simp only [s7]
          refine jj_iload_n h d_T_readFields_26 rfl ?_
          refine jj_aload_n h d_T_readFields_27 rfl ⟨_, rfl⟩ ?_
          refine jj_g_E_end h (by omega) fl_T_119 d_T_readFields_28 ?_
          try simp only [s7]
          refine jj_callV h (cB_lineEnd hwm (by omega) (by omega) (by rw [r3]; omega)) cv_T_122 (ro_of he (by first | decide | omega) (by decide)) rfl rfl (by unfold mt_N; omega) (ce_B (by omega)) rfl rfl (Nat.le_of_ble_eq_true rfl) d_T_readFields_31 (fun v m31 hv => ?_)
          obtain ⟨rfl, rfl⟩ := hv
          rw [hL9]
          refine jj_istore h d_T_readFields_34 (Nat.le_of_ble_eq_true rfl) rfl ?_
          refine jj_aload_n h d_T_readFields_36 rfl ⟨_, rfl⟩ ?_
          refine jj_g_T_source h  fl_T_14 d_T_readFields_37 ?_
          try simp only [s7]
          refine jj_iload_n h d_T_readFields_40 rfl ?_
          refine jj_iload h d_T_readFields_41 rfl ?_
          refine jj_callV h (hT) cv_T_126 (ro_of he (by first | decide | omega) (by decide)) rfl rfl (by unfold mt_N; omega) (ce_B (by omega)) rfl rfl (Nat.le_of_ble_eq_true rfl) d_T_readFields_43 (fun v m43 hv => ?_)
          obtain ⟨rfl, rfl⟩ := hv
          refine jj_istore h d_T_readFields_46 (Nat.le_of_ble_eq_true rfl) rfl ?_
          refine jj_iload h d_T_readFields_48 rfl ?_
          refine jj_iload_n h d_T_readFields_50 rfl ?_
          refine jj_icmp_ne h 57 d_T_readFields_51 (by decide) ⟨by omega, by omega⟩ ⟨by omega, by omega⟩ (fun _ => ?_) (fun q51 => absurd q51 (h0))
          refine jj_aload_n h d_T_readFields_57 rfl ⟨_, rfl⟩ ?_
          refine jj_g_T_source h  fl_T_14 d_T_readFields_58 ?_
          try simp only [s7]
          refine jj_iload_n h d_T_readFields_61 rfl ?_
          refine jj_callV h (cB_in hwm (by omega) (by rw [r3]; omega)) cv_T_129 (ro_of he (by first | decide | omega) (by decide)) rfl rfl (by unfold mt_N; omega) (ce_B (by omega)) rfl rfl (Nat.le_of_ble_eq_true rfl) d_T_readFields_62 (fun v m62 hv => ?_)
          obtain ⟨rfl, rfl⟩ := hv
          show JJ G X 0 0 m _ _ (vi (m 11 p) :: _)
          rw [r11]
          refine jj_callN h (cX_isBlank ⟨by omega, by omega⟩) cv_T_133 (ro_of he (by first | decide | omega) (by decide)) rfl rfl rfl (Nat.le_of_ble_eq_true rfl) d_T_readFields_65 (fun v m65 hv => ?_)
          obtain ⟨rfl, rfl⟩ := hv
          rw [if_neg hB]
          refine jj_if_eq h 82 d_T_readFields_68 (by decide) ⟨by omega, by omega⟩ (fun _ => ?_) (fun q68 => absurd (by omega) q68)
          refine jj_aload_n h d_T_readFields_82 rfl ⟨_, rfl⟩ ?_
          refine jj_aload_n h d_T_readFields_83 rfl ⟨_, rfl⟩ ?_
          refine jj_iload_n h d_T_readFields_84 rfl ?_
          refine jj_iload h d_T_readFields_85 rfl ?_
          refine jj_callV h (hbg) cv_T_141 (ro_of he (by first | decide | omega) (by decide)) rfl rfl (by decide) rfl rfl rfl (Nat.le_of_ble_eq_true rfl) d_T_readFields_87 (fun v m87 hv => ?_)
          obtain ⟨rfl, rfl⟩ := hv.2 hA
          refine jj_istore h d_T_readFields_90 (Nat.le_of_ble_eq_true rfl) rfl ?_
          refine jj_iload h d_T_readFields_92 rfl ?_
          refine jj_if_ne h 99 d_T_readFields_94 (by decide) ⟨by omega, by omega⟩ (fun q94 => absurd (by omega) q94) (fun _ => ?_)
          refine jj_iload_n h d_T_readFields_97 rfl ?_
          refine jj_iret h he d_T_readFields_98 ?_
          exact ⟨rfl, k8.1, k9, k10, by show m 4 1 ≤ mem 4 1 + (p - b); omega⟩
  refine jj_aload_n h d_T_readFields_0 rfl ⟨_, rfl⟩ ?_
  refine jj_g_E_begin h (by omega) fl_T_116 d_T_readFields_1 ?_
  try simp only [hb5]
  refine jj_istore_n h d_T_readFields_4 (Nat.le_of_ble_eq_true rfl) rfl ?_
  refine jj_iconst h d_T_readFields_5 ?_
  refine jj_istore_n h d_T_readFields_6 (Nat.le_of_ble_eq_true rfl) rfl ?_
  exact loop _ b 0 _ [] mem _ _ _ (Nat.le_refl _) (Int.le_refl _) b1 (Int.le_refl _) (by omega) (Nat.le_refl _) hR.symm ⟨⟨h12, by decide, fun f q hq => by cases hq⟩, fun z => absurd rfl z⟩ fG.rf h4 (by omega)
