/-! The class: values are trimmed. -/
theorem cT_trimValues {G : mt_G} {l : Launch} {mem : mt_M} {N : Nat} {F : List (List Int × List Int)} (hN : N < 16) (hF : cG mem N F) (h4 : bw_ mem 4) : CT G l y_T_trimValues c_T_trimValues 7 none 3 [vr G 17, vr G (22 + N)] mem (fun v m' => v = none ∧ cG m' N (F.map (fun q => (q.1, tr_ q.2))) ∧ ∀ r : Nat, (r < 54 + 8 * N ∨ 62 + 8 * N ≤ r) → m' r = mem r) := by
  have hsz := h4.2.2.1
  have hl4 : ln_ (4 + 8) = 320 := rfl
  refine CT.intro (by decide) rfl (Nat.le_of_ble_eq_true rfl) (fun X h he => ?_)
  obtain ⟨c1, c2, c3⟩ := hF
  have loop : ∀ (n f : Nat) (m : mt_M) (x3 x4 x5 x6 : Option Value), F.length - f = n → f ≤ F.length → (∀ r : Nat, (r < 54 + 8 * N ∨ 62 + 8 * N ≤ r) → m r = mem r) → (∀ (i : Nat) (q : List Int × List Int), F[i]? = some q → cF m N i (if i < f then (q.1, tr_ q.2) else q)) → JJ G X 0 0 m 2 [some (vr G 17), some (vr G (22 + N)), some (vi f), x3, x4, x5, x6] [] := by
    intro n
    induction n with
    | zero =>
      intro f m x3 x4 x5 x6 k1 k2 k3 k4
      have s12 : m (22 + N) 12 = F.length := by rw [k3 _ (by omega)]; exact c1
      refine jj_iload_n h d_T_trimValues_2 rfl ?_
      refine jj_aload_n h d_T_trimValues_3 rfl ⟨_, rfl⟩ ?_
      refine jj_g_E_fieldCount h (by omega) fl_T_144 d_T_trimValues_4 ?_
      try simp only [s12]
      refine jj_icmp_ge h 110 d_T_trimValues_7 (by decide) ⟨by omega, by omega⟩ ⟨by omega, by omega⟩ (fun _ => ?_) (fun q7 => absurd (by omega) q7)
      refine jj_vret h he d_T_trimValues_110 ?_
      refine ⟨rfl, ⟨by rw [s12, List.length_map], by rw [List.length_map]; exact c2, fun i p hp => ?_⟩, k3⟩
      rw [List.getElem?_map] at hp
      cases hq : F[i]? with
      | none => rw [hq] at hp; cases hp
      | some q =>
        rw [hq] at hp
        have := k4 i q hq
        have hi := (List.getElem?_eq_some_iff.mp hq).1
        rw [if_pos (by omega)] at this
        rw [← Option.some.inj hp]
        exact this
    | succ n ih =>
      intro f m x3 x4 x5 x6 k1 k2 k3 k4
      have s12 : m (22 + N) 12 = F.length := by rw [k3 _ (by omega)]; exact c1
      have r4 : m 4 = mem 4 := k3 4 (by omega)
      have r12 : m 12 = mem 12 := k3 12 (by omega)
      have h4m : bw_ m 4 := h4.mov r4 r12
      obtain ⟨q, hq⟩ : ∃ q, F[f]? = some q := ⟨_, List.getElem?_eq_getElem (by omega)⟩
      have kf := k4 f q hq
      rw [if_neg (by omega)] at kf
      obtain ⟨⟨a1, a2, a3, a4⟩, b1, b2, b3, b4⟩ := kf
      rw [r4] at b3
      have hl9 := (bb_suf q.2).length_le
      have hz := slc_suf (f := m 12) (a := m (54 + 8 * N + f) 2) (s := m (54 + 8 * N + f) 2 + q.2.length) (by omega) (l' := bb_ q.2) (by rw [b4]; exact bb_suf q.2)
      generalize hv0 : m (54 + 8 * N + f) 2 = v0 at *
      generalize hv1 : v0 + (q.2.length : Int) = v1 at *
      generalize hbg : v1 - ((bb_ q.2).length : Int) = bg at *
      have at89 : ∀ i : Int, bg ≤ i → i ≤ v1 → slc (m 12) bg i = tr_ q.2 → JJ G X 0 0 m 89 [some (vr G 17), some (vr G (22 + N)), some (vi f), some (vr G (54 + 8 * N + f)), some (vi i), some (vi bg), some (vi i)] [] := by
        intro i i0 i1 i2
        have hln : (((tr_ q.2).length : Nat) : Int) = i - bg := by rw [← i2]; exact slc_lenI i0
        have fin : ∀ m' : mt_M, st_ (st_ m (54 + 8 * N + f) 2 bg) (54 + 8 * N + f) 3 (i - bg) = m' → JJ G X 0 0 m' 2 [some (vr G 17), some (vr G (22 + N)), some (vi ((f : Int) + 1)), some (vr G (54 + 8 * N + f)), some (vi i), some (vi bg), some (vi i)] [] := by
          intro m' hm'
          have y0 : ∀ r : Nat, r ≠ 54 + 8 * N + f → m' r = m r := fun r hr => by rw [← hm', st_row hr, st_row hr]
          have yj : ∀ z : Int, z ≠ 2 → z ≠ 3 → m' (54 + 8 * N + f) z = m (54 + 8 * N + f) z := fun z z2 z3 => by rw [← hm', st_ne (Or.inr z3), st_ne (Or.inr z2)]
          have y2 : m' (54 + 8 * N + f) 2 = bg := by rw [← hm', st_ne (Or.inr (by decide)), st_same]
          have y3 : m' (54 + 8 * N + f) 3 = i - bg := by rw [← hm', st_same]
          refine ih (f + 1) m' _ _ _ _ (by omega) (by omega) (fun r hr => by rw [y0 r (by have := (List.getElem?_eq_some_iff.mp hq).1; omega), k3 r hr]) (fun j p hp => ?_)
          by_cases hj : j = f
          · subst hj
            rw [hq] at hp
            obtain rfl := Option.some.inj hp
            rw [if_pos (by omega)]
            unfold cF
            rw [yj 0 (by decide) (by decide), yj 1 (by decide) (by decide), y2, y3, y0 3 (by omega), y0 4 (by omega), y0 11 (by omega), y0 12 (by omega)]
            refine ⟨⟨a1, a2, a3, a4⟩, by omega, hln.symm, ?_, ?_⟩
            · show bg + ((tr_ q.2).length : Int) ≤ _
              rw [r4]; omega
            · show slc (m 12) bg (bg + ((tr_ q.2).length : Int)) = tr_ q.2
              rw [hln, show bg + (i - bg) = i by omega]; exact i2
          · have := k4 j p hp
            have e9 : (if j < f + 1 then (p.1, tr_ p.2) else p) = if j < f then (p.1, tr_ p.2) else p := by
              by_cases hjf : j < f
              · rw [if_pos hjf, if_pos (by omega)]
              · rw [if_neg hjf, if_neg (by omega)]
            rw [e9]
            exact this.mov (y0 _ (by omega)) (by rw [y0 3 (by omega)]) (y0 11 (by omega)) (up_.same (by rw [y0 4 (by omega)]) (y0 _ (by omega)))
        refine jj_aload_n h d_T_trimValues_89 rfl ⟨_, rfl⟩ ?_
        refine jj_iload h d_T_trimValues_90 rfl ?_
        refine jj_p_F_valueBegin h (by omega) fl_T_165 d_T_trimValues_92 ?_
        refine jj_aload_n h d_T_trimValues_95 rfl ⟨_, rfl⟩ ?_
        refine jj_iload h d_T_trimValues_96 rfl ?_
        refine jj_iload h d_T_trimValues_98 rfl ?_
        refine jj_isub h d_T_trimValues_100 ?_
        refine jj_p_F_valueSize h (by omega) fl_T_151 d_T_trimValues_101 ?_
        refine jj_iinc h d_T_trimValues_104 rfl rfl ?_
        refine jj_goto h 2 d_T_trimValues_107 (by decide) ?_
        exact fin _ rfl
      have inner : ∀ (k : Nat) (i : Int), (i - bg).toNat = k → bg ≤ i → i ≤ v1 → rt_ (slc (m 12) bg i) = tr_ q.2 → JJ G X 0 0 m 53 [some (vr G 17), some (vr G (22 + N)), some (vi f), some (vr G (54 + 8 * N + f)), some (vi i), some (vi bg), some (vi i)] [] := by
        intro k
        induction k with
        | zero =>
          intro i i0 i1 i2 i3
          refine jj_iload h d_T_trimValues_53 rfl ?_
          refine jj_iload h d_T_trimValues_55 rfl ?_
          refine jj_icmp_le h 89 d_T_trimValues_57 (by decide) ⟨by omega, by omega⟩ ⟨by omega, by omega⟩ (fun _ => ?_) (fun q57 => absurd (by omega) q57)
          exact at89 i i1 i2 (by rw [← i3, slc_nil (by omega)]; rfl)
        | succ k ihk =>
          intro i i0 i1 i2 i3
          have hby : 0 ≤ m 12 (i - 1) ∧ m 12 (i - 1) ≤ 255 := h4m.2.2.2 (i - 1) (by omega) (by rw [r4]; omega)
          have hsn : slc (m 12) bg i = slc (m 12) bg (i - 1) ++ [m 12 (i - 1)] := by
            have := slc_snoc (f := m 12) (p := bg) (e := i - 1) (by omega)
            rw [show i - 1 + 1 = i by omega] at this
            exact this
          rw [hsn, rt_snoc] at i3
          by_cases hb : bl_ (m 12 (i - 1))
          · rw [if_pos hb] at i3
            refine jj_iload h d_T_trimValues_53 rfl ?_
            refine jj_iload h d_T_trimValues_55 rfl ?_
            refine jj_icmp_le h 89 d_T_trimValues_57 (by decide) ⟨by omega, by omega⟩ ⟨by omega, by omega⟩ (fun q57 => absurd q57 (by omega)) (fun _ => ?_)
            refine jj_aload_n h d_T_trimValues_60 rfl ⟨_, rfl⟩ ?_
            refine jj_g_T_values h  fl_T_20 d_T_trimValues_61 ?_
            refine jj_iload h d_T_trimValues_64 rfl ?_
            refine jj_iconst h d_T_trimValues_66 ?_
            refine jj_isub h d_T_trimValues_67 ?_
            refine jj_callV h (cB_in h4m (by omega) (by rw [r4]; omega)) cv_T_129 (ro_of he (by first | decide | omega) (by decide)) rfl rfl (by unfold mt_N; omega) (ce_B (by omega)) rfl rfl (Nat.le_of_ble_eq_true rfl) d_T_trimValues_68 (fun v m68 hv => ?_)
            obtain ⟨rfl, rfl⟩ := hv
            show JJ G X 0 0 m _ _ (vi (m 12 (i - 1)) :: _)
            refine jj_callN h (cX_isBlank ⟨by omega, by omega⟩) cv_T_133 (ro_of he (by first | decide | omega) (by decide)) rfl rfl rfl (Nat.le_of_ble_eq_true rfl) d_T_trimValues_71 (fun v m71 hv => ?_)
            obtain ⟨rfl, rfl⟩ := hv
            rw [if_pos hb]
            refine jj_if_eq h 89 d_T_trimValues_74 (by decide) ⟨by omega, by omega⟩ (fun q74 => absurd q74 (by omega)) (fun _ => ?_)
            refine jj_iload h d_T_trimValues_77 rfl ?_
            refine jj_iconst h d_T_trimValues_79 ?_
            refine jj_isub h d_T_trimValues_80 ?_
            refine jj_istore h d_T_trimValues_81 (Nat.le_of_ble_eq_true rfl) rfl ?_
            refine jj_iinc h d_T_trimValues_83 rfl rfl ?_
            refine jj_goto h 53 d_T_trimValues_86 (by decide) ?_
            exact ihk (i - 1) (by omega) (by omega) (by omega) i3
          · rw [if_neg hb, ← hsn] at i3
            refine jj_iload h d_T_trimValues_53 rfl ?_
            refine jj_iload h d_T_trimValues_55 rfl ?_
            refine jj_icmp_le h 89 d_T_trimValues_57 (by decide) ⟨by omega, by omega⟩ ⟨by omega, by omega⟩ (fun q57 => absurd q57 (by omega)) (fun _ => ?_)
            refine jj_aload_n h d_T_trimValues_60 rfl ⟨_, rfl⟩ ?_
            refine jj_g_T_values h  fl_T_20 d_T_trimValues_61 ?_
            refine jj_iload h d_T_trimValues_64 rfl ?_
            refine jj_iconst h d_T_trimValues_66 ?_
            refine jj_isub h d_T_trimValues_67 ?_
            refine jj_callV h (cB_in h4m (by omega) (by rw [r4]; omega)) cv_T_129 (ro_of he (by first | decide | omega) (by decide)) rfl rfl (by unfold mt_N; omega) (ce_B (by omega)) rfl rfl (Nat.le_of_ble_eq_true rfl) d_T_trimValues_68 (fun v m68 hv => ?_)
            obtain ⟨rfl, rfl⟩ := hv
            show JJ G X 0 0 m _ _ (vi (m 12 (i - 1)) :: _)
            refine jj_callN h (cX_isBlank ⟨by omega, by omega⟩) cv_T_133 (ro_of he (by first | decide | omega) (by decide)) rfl rfl rfl (Nat.le_of_ble_eq_true rfl) d_T_trimValues_71 (fun v m71 hv => ?_)
            obtain ⟨rfl, rfl⟩ := hv
            rw [if_neg hb]
            refine jj_if_eq h 89 d_T_trimValues_74 (by decide) ⟨by omega, by omega⟩ (fun _ => ?_) (fun q74 => absurd (by omega) q74)
            exact at89 i i1 i2 i3
      have hfl := (List.getElem?_eq_some_iff.mp hq).1
      refine jj_iload_n h d_T_trimValues_2 rfl ?_
      refine jj_aload_n h d_T_trimValues_3 rfl ⟨_, rfl⟩ ?_
      refine jj_g_E_fieldCount h (by omega) fl_T_144 d_T_trimValues_4 ?_
      try simp only [s12, hv0, b2, hv1]
      refine jj_icmp_ge h 110 d_T_trimValues_7 (by decide) ⟨by omega, by omega⟩ ⟨by omega, by omega⟩ (fun q7 => absurd q7 (by omega)) (fun _ => ?_)
      refine jj_iload_n h d_T_trimValues_10 rfl ?_
      refine jj_bipush h d_T_trimValues_11 (by decide) ?_
      refine jj_icmp_ge h 110 d_T_trimValues_13 (by decide) ⟨by omega, by omega⟩ ⟨by omega, by omega⟩ (fun q13 => absurd q13 (by omega)) (fun _ => ?_)
      refine jj_aload_n h d_T_trimValues_16 rfl ⟨_, rfl⟩ ?_
      refine jj_g_E_fields h (by omega) fl_T_147 d_T_trimValues_17 ?_
      try simp only [s12, hv0, b2, hv1]
      refine jj_iload_n h d_T_trimValues_20 rfl ?_
      refine jj_aF h hN (by omega) (by omega) d_T_trimValues_21 ?_
      rw [show ((f : Int)).toNat = f from rfl]
      refine jj_astore_n h d_T_trimValues_22 ⟨_, rfl⟩ (Nat.le_of_ble_eq_true rfl) rfl ?_
      refine jj_aload_n h d_T_trimValues_23 rfl ⟨_, rfl⟩ ?_
      refine jj_g_F_valueBegin h (by omega) fl_T_165 d_T_trimValues_24 ?_
      try simp only [s12, hv0, b2, hv1]
      refine jj_aload_n h d_T_trimValues_27 rfl ⟨_, rfl⟩ ?_
      refine jj_g_F_valueSize h (by omega) fl_T_151 d_T_trimValues_28 ?_
      try simp only [s12, hv0, b2, hv1]
      refine jj_iadd h d_T_trimValues_31 ?_
      rw [hv1]
      refine jj_istore h d_T_trimValues_32 (Nat.le_of_ble_eq_true rfl) rfl ?_
      refine jj_aload_n h d_T_trimValues_34 rfl ⟨_, rfl⟩ ?_
      refine jj_g_T_values h  fl_T_20 d_T_trimValues_35 ?_
      try simp only [s12, hv0, b2, hv1]
      refine jj_aload_n h d_T_trimValues_38 rfl ⟨_, rfl⟩ ?_
      refine jj_g_F_valueBegin h (by omega) fl_T_165 d_T_trimValues_39 ?_
      try simp only [s12, hv0, b2, hv1]
      refine jj_iload h d_T_trimValues_42 rfl ?_
      refine jj_callV h (cB_skipBlanks h4m (by omega) (by omega) (by rw [r4]; omega)) cv_T_168 (ro_of he (by first | decide | omega) (by decide)) rfl rfl (by unfold mt_N; omega) (ce_B (by omega)) rfl rfl (Nat.le_of_ble_eq_true rfl) d_T_trimValues_44 (fun v m44 hv => ?_)
      obtain ⟨rfl, rfl⟩ := hv
      show JJ G X 0 0 m _ _ (vi (v1 - (bb_ (slc (m 12) v0 v1)).length) :: _)
      rw [b4, hbg]
      refine jj_istore h d_T_trimValues_47 (Nat.le_of_ble_eq_true rfl) rfl ?_
      refine jj_iload h d_T_trimValues_49 rfl ?_
      refine jj_istore h d_T_trimValues_51 (Nat.le_of_ble_eq_true rfl) rfl ?_
      exact inner _ v1 rfl (by omega) (Int.le_refl _) (by rw [hz.1]; rfl)
  refine jj_iconst h d_T_trimValues_0 ?_
  refine jj_istore_n h d_T_trimValues_1 (Nat.le_of_ble_eq_true rfl) rfl ?_
  exact loop _ 0 mem _ _ _ _ rfl (by omega) (fun _ _ => rfl) (fun i q hq => by rw [if_neg (by omega)]; exact c3 i q hq)
