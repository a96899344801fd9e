/-! The class: the scanner's state; a quoted one. -/
/-- the scanner over the world mem: its end, place, mark, word -/
def SR (mem : mt_M) (e p nb : Int) (W : List Int) (m : mt_M) : Prop := (∀ r : Nat, r ≠ 7 → r ≠ 15 → r ≠ 18 → m r = mem r) ∧ m 18 2 = p ∧ m 18 3 = e ∧ m 18 4 = nb ∧ m 7 1 = W.length ∧ slc (m 15) 0 W.length = W ∧ W.length ≤ 320 ∧ ∀ c ∈ W, 0 ≤ c ∧ c ≤ 255
section SRs
variable {mem m : mt_M} {e p nb : Int} {W : List Int}
theorem SR.bw (h : SR mem e p nb W m) (hw : bw_ mem 4) : bw_ m 4 := by
  unfold bw_
  rw [h.1 4 (by decide) (by decide) (by decide), h.1 (4 + 8) (by decide) (by decide) (by decide)]
  exact hw
theorem SR.r12 (h : SR mem e p nb W m) : m 12 = mem 12 := h.1 12 (by decide) (by decide) (by decide)
theorem SR.r4 (h : SR mem e p nb W m) : m 4 = mem 4 := h.1 4 (by decide) (by decide) (by decide)
theorem SR.place (h : SR mem e p nb W m) (q : Int) : SR mem e q nb W (st_ m 18 2 q) := ⟨fun r a b c => by rw [st_row c]; exact h.1 r a b c, st_same, by rw [st_ne (by decide)]; exact h.2.2.1, by rw [st_ne (by decide)]; exact h.2.2.2.1, by rw [st_ne (by decide)]; exact h.2.2.2.2.1, by rw [st_row (by decide)]; exact h.2.2.2.2.2.1, h.2.2.2.2.2.2⟩
theorem SR.mark (h : SR mem e p nb W m) (x : Int) : SR mem e p x W (st_ m 18 4 x) := ⟨fun r a b c => by rw [st_row c]; exact h.1 r a b c, by rw [st_ne (by decide)]; exact h.2.1, by rw [st_ne (by decide)]; exact h.2.2.1, st_same, by rw [st_ne (by decide)]; exact h.2.2.2.2.1, by rw [st_row (by decide)]; exact h.2.2.2.2.2.1, h.2.2.2.2.2.2⟩
theorem SR.empty (h : SR mem e p nb W m) : SR mem e p nb [] (st_ (st_ m 7 1 0) 7 2 0) := by
  refine ⟨fun r a b c => by rw [st_row a, st_row a]; exact h.1 r a b c, ?_, ?_, ?_, ?_, ?_, by decide, fun c hc => by cases hc⟩
  · rw [st_row (by decide), st_row (by decide)]; exact h.2.1
  · rw [st_row (by decide), st_row (by decide)]; exact h.2.2.1
  · rw [st_row (by decide), st_row (by decide)]; exact h.2.2.2.1
  · rw [st_ne (by decide), st_same]; rfl
  · exact slc_nil (by decide)
theorem SR.put (h : SR mem e p nb W m) {c : Int} (hc : 0 ≤ c ∧ c ≤ 255) (hl : W.length < 320) : SR mem e p nb (W ++ [c]) (bp_ m 7 c) := by
  obtain ⟨h1, h2, h3, h4, h5, h6, h7, h8⟩ := h
  have e1 : bp_ m 7 c = st_ (st_ m 15 (m 7 1) c) 7 1 (m 7 1 + 1) := if_pos (show m 7 1 < (320 : Int) by rw [h5]; omega)
  have e2 : ((W ++ [c]).length : Int) = W.length + 1 := by simp
  rw [e1, h5]
  refine ⟨fun r a b d => by rw [st_row a, st_row b]; exact h1 r a b d, ?_, ?_, ?_, ?_, ?_, ?_, fun d hd => ?_⟩
  · rw [st_row (by decide), st_row (by decide)]; exact h2
  · rw [st_row (by decide), st_row (by decide)]; exact h3
  · rw [st_row (by decide), st_row (by decide)]; exact h4
  · rw [st_same, e2]
  · rw [e2, st_row (by decide), slc_snoc (by omega), st_same]
    have : slc (st_ m 15 (W.length : Int) c 15) 0 W.length = slc (m 15) 0 W.length := slc_ext (fun i a b => st_ne (Or.inr (by omega)))
    rw [this, h6]
  · rw [List.length_append]; show W.length + 1 ≤ 320; omega
  · rcases List.mem_append.mp hd with hd | hd
    · exact h8 d hd
    · rw [List.mem_singleton.mp hd]; exact hc
end SRs
theorem cS_takeQuoted {G : mt_G} {l : Launch} {mem m0 : mt_M} {e p nb : Int} {W0 : List Int} (hw : bw_ mem 4) (hs : SR mem e p nb W0 m0) (p0 : 0 ≤ p) (p1 : p ≤ e) (e1 : e ≤ mem 4 1) : CT G l y_S_takeQuoted c_S_takeQuoted 1 (some .boolean) 3 [vr G 18] m0 (fun v m' => (∀ w t, (tk_ 34 (slc (mem 12) p e)).bind qtd = some (w, t) → v = some (vi 1) ∧ SR mem e (e - t.length) nb w m') ∧ ((tk_ 34 (slc (mem 12) p e)).bind qtd = none → v = some (vi 0) ∧ ∃ w p', p ≤ p' ∧ p' ≤ e ∧ SR mem e p' nb w m')) := by
  have hsz := hw.2.2.1
  have hl9 : ln_ (4 + 8) = 320 := rfl
  refine CT.intro (by decide) rfl (Nat.le_of_ble_eq_true rfl) (fun X h he => ?_)
  generalize hQ : (tk_ 34 (slc (mem 12) p e)).bind qtd = Q at *
  have loop : ∀ (n : Nat) (q : Int) (W : List Int) (m : mt_M), (e - q).toNat ≤ n → p + 1 ≤ q → q ≤ e → (W.length : Int) ≤ q - p - 1 → SR mem e q nb W m → Q = (qtd (slc (mem 12) q e)).map (fun z => (W ++ z.1, z.2)) → JJ G X 0 0 m 18 [some (vr G 18)] [] := by
    intro n
    induction n with
    | zero =>
      intro q W m k1 k2 k3 k4 k5 k6
      have s1 : m 18 2 = q := k5.2.1
      have s2 : m 18 3 = e := k5.2.2.1
      rw [slc_nil (by omega)] at k6
      refine jj_aload_n h d_S_takeQuoted_18 rfl ⟨_, rfl⟩ ?_
      refine jj_g_S_place h  fl_S_29 d_S_takeQuoted_19 ?_
      try simp only [s1, s2]
      refine jj_aload_n h d_S_takeQuoted_22 rfl ⟨_, rfl⟩ ?_
      refine jj_g_S_end h  fl_S_35 d_S_takeQuoted_23 ?_
      try simp only [s1, s2]
      refine jj_icmp_ge h 127 d_S_takeQuoted_26 (by decide) ⟨by omega, by omega⟩ ⟨by omega, by omega⟩ (fun _ => ?_) (fun q26 => absurd (by omega) q26)
      refine jj_iconst h d_S_takeQuoted_127 ?_
      refine jj_zret h he (by omega) d_S_takeQuoted_128 ?_
      exact ⟨fun w t z => (by rw [k6] at z; cases z), fun _ => ⟨rfl, W, q, by omega, k3, k5⟩⟩
    | succ n ih =>
      intro q W m k1 k2 k3 k4 k5 k6
      have s1 : m 18 2 = q := k5.2.1
      have s2 : m 18 3 = e := k5.2.2.1
      by_cases hq : e ≤ q
      · rw [slc_nil (by omega)] at k6
        refine jj_aload_n h d_S_takeQuoted_18 rfl ⟨_, rfl⟩ ?_
        refine jj_g_S_place h  fl_S_29 d_S_takeQuoted_19 ?_
        try simp only [s1, s2]
        refine jj_aload_n h d_S_takeQuoted_22 rfl ⟨_, rfl⟩ ?_
        refine jj_g_S_end h  fl_S_35 d_S_takeQuoted_23 ?_
        try simp only [s1, s2]
        refine jj_icmp_ge h 127 d_S_takeQuoted_26 (by decide) ⟨by omega, by omega⟩ ⟨by omega, by omega⟩ (fun _ => ?_) (fun q26 => absurd (by omega) q26)
        refine jj_iconst h d_S_takeQuoted_127 ?_
        refine jj_zret h he (by omega) d_S_takeQuoted_128 ?_
        exact ⟨fun w t z => (by rw [k6] at z; cases z), fun _ => ⟨rfl, W, q, by omega, k3, k5⟩⟩
      have r4 := k5.r4
      have r12 := k5.r12
      have hwm := k5.bw hw
      have hby : 0 ≤ mem 12 q ∧ mem 12 q ≤ 255 := hw.2.2.2 q (by omega) (by omega)
      have hcs : slc (mem 12) q e = mem 12 q :: slc (mem 12) (q + 1) e := slc_cons (by omega)
      have tail : ∀ (m1 : mt_M) (q1 : Int), SR mem e q1 nb W m1 → q ≤ q1 → q1 < e → Q = (qtd (slc (mem 12) (q1 + 1) e)).map (fun z => ((W ++ [mem 12 q1]) ++ z.1, z.2)) → JJ G X 0 0 m1 96 [some (vr G 18)] [] := by
        intro m1 q1 t1 t2 t3 t4
        have u1 : m1 18 2 = q1 := t1.2.1
        have u4 := t1.r4
        have u12 := t1.r12
        have hby1 : 0 ≤ mem 12 q1 ∧ mem 12 q1 ≤ 255 := hw.2.2.2 q1 (by omega) (by omega)
        have u5 := t1.2.2.2.2.1
        have t9 := t1.put hby1 (by omega)
        have u2 : bp_ m1 7 (mem 12 q1) 18 2 = q1 := t9.2.1
        refine jj_aload_n h d_S_takeQuoted_96 rfl ⟨_, rfl⟩ ?_
        refine jj_g_S_word h  fl_S_20 d_S_takeQuoted_97 ?_
        try simp only [u1, u2]
        refine jj_aload_n h d_S_takeQuoted_100 rfl ⟨_, rfl⟩ ?_
        refine jj_g_S_values h  fl_S_9 d_S_takeQuoted_101 ?_
        try simp only [u1, u2]
        refine jj_aload_n h d_S_takeQuoted_104 rfl ⟨_, rfl⟩ ?_
        refine jj_g_S_place h  fl_S_29 d_S_takeQuoted_105 ?_
        try simp only [u1, u2]
        refine jj_callV h (cB_in (t1.bw hw) (by omega) (by rw [u4]; omega)) cv_S_38 (ro_of he (by first | decide | omega) (by decide)) rfl rfl (by unfold mt_N; omega) (ce_B (by omega)) rfl rfl (Nat.le_of_ble_eq_true rfl) d_S_takeQuoted_108 (fun v m108 hv => ?_)
        obtain ⟨rfl, rfl⟩ := hv
        show JJ G X 0 0 m1 _ _ (vi (m1 12 q1) :: _)
        rw [u12]
        refine jj_callV h (cB_put ⟨by decide, by decide⟩ (by rw [u5]; omega) (by rw [u5]; show (W.length : Int) ≤ 320; omega)) cv_S_52 (ro_of he (by first | decide | omega) (by decide)) rfl rfl (by unfold mt_N; omega) (ce_B (by omega)) rfl rfl (Nat.le_of_ble_eq_true rfl) d_S_takeQuoted_111 (fun v m111 hv => ?_)
        obtain ⟨rfl, rfl⟩ := hv
        refine jj_aload_n h d_S_takeQuoted_114 rfl ⟨_, rfl⟩ ?_
        refine jj_dup h d_S_takeQuoted_115 rfl ?_
        refine jj_g_S_place h  fl_S_29 d_S_takeQuoted_116 ?_
        try simp only [u1, u2]
        refine jj_iconst h d_S_takeQuoted_119 ?_
        refine jj_iadd h d_S_takeQuoted_120 ?_
        refine jj_p_S_place h  fl_S_29 d_S_takeQuoted_121 ?_
        refine jj_goto h 18 d_S_takeQuoted_124 (by decide) ?_
        exact ih (q1 + 1) (W ++ [mem 12 q1]) _ (by omega) (by omega) (by omega) (by rw [List.length_append]; show ((W.length + 1 : Nat) : Int) ≤ _; omega) (t9.place _) t4
      refine jj_aload_n h d_S_takeQuoted_18 rfl ⟨_, rfl⟩ ?_
      refine jj_g_S_place h  fl_S_29 d_S_takeQuoted_19 ?_
      try simp only [s1, s2]
      refine jj_aload_n h d_S_takeQuoted_22 rfl ⟨_, rfl⟩ ?_
      refine jj_g_S_end h  fl_S_35 d_S_takeQuoted_23 ?_
      try simp only [s1, s2]
      refine jj_icmp_ge h 127 d_S_takeQuoted_26 (by decide) ⟨by omega, by omega⟩ ⟨by omega, by omega⟩ (fun q26 => absurd q26 (by omega)) (fun _ => ?_)
      refine jj_aload_n h d_S_takeQuoted_29 rfl ⟨_, rfl⟩ ?_
      refine jj_g_S_values h  fl_S_9 d_S_takeQuoted_30 ?_
      try simp only [s1, s2]
      refine jj_aload_n h d_S_takeQuoted_33 rfl ⟨_, rfl⟩ ?_
      refine jj_g_S_place h  fl_S_29 d_S_takeQuoted_34 ?_
      try simp only [s1, s2]
      refine jj_callV h (cB_in hwm (by omega) (by rw [r4]; omega)) cv_S_38 (ro_of he (by first | decide | omega) (by decide)) rfl rfl (by unfold mt_N; omega) (ce_B (by omega)) rfl rfl (Nat.le_of_ble_eq_true rfl) d_S_takeQuoted_37 (fun v m37 hv => ?_)
      obtain ⟨rfl, rfl⟩ := hv
      show JJ G X 0 0 m _ _ (vi (m 12 q) :: _)
      rw [r12]
      refine jj_bipush h d_S_takeQuoted_40 (by decide) ?_
      refine jj_icmp_ne h 57 d_S_takeQuoted_42 (by decide) ⟨by omega, by omega⟩ ⟨by omega, by omega⟩ (fun q42 => ?_) (fun q42 => ?_)
      · refine jj_aload_n h d_S_takeQuoted_57 rfl ⟨_, rfl⟩ ?_
        refine jj_g_S_values h  fl_S_9 d_S_takeQuoted_58 ?_
        try simp only [s1, s2]
        refine jj_aload_n h d_S_takeQuoted_61 rfl ⟨_, rfl⟩ ?_
        refine jj_g_S_place h  fl_S_29 d_S_takeQuoted_62 ?_
        try simp only [s1, s2]
        refine jj_callV h (cB_in hwm (by omega) (by rw [r4]; omega)) cv_S_38 (ro_of he (by first | decide | omega) (by decide)) rfl rfl (by unfold mt_N; omega) (ce_B (by omega)) rfl rfl (Nat.le_of_ble_eq_true rfl) d_S_takeQuoted_65 (fun v m65 hv => ?_)
        obtain ⟨rfl, rfl⟩ := hv
        show JJ G X 0 0 m _ _ (vi (m 12 q) :: _)
        rw [r12]
        refine jj_bipush h d_S_takeQuoted_68 (by decide) ?_
        refine jj_icmp_ne h 96 d_S_takeQuoted_70 (by decide) ⟨by omega, by omega⟩ ⟨by omega, by omega⟩ (fun q70 => ?_) (fun q70 => ?_)
        · refine tail m q k5 (by omega) (by omega) ?_
          rw [k6, hcs, qt_other (by omega) (by omega), Option.map_map]
          congr 1
          funext z
          show (W ++ (mem 12 q :: z.1), z.2) = _
          rw [List.append_assoc]; rfl
        · refine jj_aload_n h d_S_takeQuoted_73 rfl ⟨_, rfl⟩ ?_
          refine jj_g_S_place h  fl_S_29 d_S_takeQuoted_74 ?_
          try simp only [s1, s2]
          refine jj_iconst h d_S_takeQuoted_77 ?_
          refine jj_iadd h d_S_takeQuoted_78 ?_
          refine jj_aload_n h d_S_takeQuoted_79 rfl ⟨_, rfl⟩ ?_
          refine jj_g_S_end h  fl_S_35 d_S_takeQuoted_80 ?_
          try simp only [s1, s2]
          refine jj_icmp_ge h 96 d_S_takeQuoted_83 (by decide) ⟨by omega, by omega⟩ ⟨by omega, by omega⟩ (fun q83 => ?_) (fun q83 => ?_)
          · refine tail m q k5 (by omega) (by omega) ?_
            rw [k6, hcs, slc_nil (by omega), show mem 12 q = 92 by omega]; rfl
          · refine jj_aload_n h d_S_takeQuoted_86 rfl ⟨_, rfl⟩ ?_
            refine jj_dup h d_S_takeQuoted_87 rfl ?_
            refine jj_g_S_place h  fl_S_29 d_S_takeQuoted_88 ?_
            try simp only [s1, s2]
            refine jj_iconst h d_S_takeQuoted_91 ?_
            refine jj_iadd h d_S_takeQuoted_92 ?_
            refine jj_p_S_place h  fl_S_29 d_S_takeQuoted_93 ?_
            have hcs2 : slc (mem 12) (q + 1) e = mem 12 (q + 1) :: slc (mem 12) (q + 1 + 1) e := slc_cons (by omega)
            refine tail _ (q + 1) (k5.place _) (by omega) (by omega) ?_
            rw [k6, hcs, hcs2, show mem 12 q = 92 by omega, qt_back, Option.map_map]
            congr 1
            funext z
            show (W ++ (mem 12 (q + 1) :: z.1), z.2) = _
            rw [List.append_assoc]; rfl
      · have q42 : mem 12 q = 34 := by omega
        refine jj_aload_n h d_S_takeQuoted_45 rfl ⟨_, rfl⟩ ?_
        refine jj_dup h d_S_takeQuoted_46 rfl ?_
        refine jj_g_S_place h  fl_S_29 d_S_takeQuoted_47 ?_
        try simp only [s1, s2]
        refine jj_iconst h d_S_takeQuoted_50 ?_
        refine jj_iadd h d_S_takeQuoted_51 ?_
        refine jj_p_S_place h  fl_S_29 d_S_takeQuoted_52 ?_
        refine jj_iconst h d_S_takeQuoted_55 ?_
        refine jj_zret h he (by omega) d_S_takeQuoted_56 ?_
        rw [hcs, q42, qt_end] at k6
        have hln : ((slc (mem 12) (q + 1) e).length : Int) = e - (q + 1) := slc_lenI (by omega)
        refine ⟨fun w t z => ?_, fun z => by rw [k6] at z; cases z⟩
        rw [k6] at z
        cases z
        refine ⟨rfl, ?_⟩
        show SR mem e (e - ((slc (mem 12) (q + 1) e).length : Int)) nb (W ++ []) _
        rw [hln, List.append_nil, show e - (e - (q + 1)) = q + 1 by omega]
        exact k5.place _
  have h1 := hs.empty
  have s1 : st_ (st_ m0 7 1 0) 7 2 0 18 2 = p := h1.2.1
  have s2 : st_ (st_ m0 7 1 0) 7 2 0 18 3 = e := h1.2.2.1
  have r4 := h1.r4
  have r12 := h1.r12
  generalize hM : st_ (st_ m0 7 1 0) 7 2 0 = M at *
  by_cases k : p < e ∧ mem 12 p = 34
  · have hq : Q = qtd (slc (mem 12) (p + 1) e) := by rw [← hQ, slc_cons k.1, k.2]; rfl
    refine jj_aload_n h d_S_takeQuoted_0 rfl ⟨_, rfl⟩ ?_
    refine jj_g_S_word h  fl_S_20 d_S_takeQuoted_1 ?_
    refine jj_callV h (cB_empty ⟨by decide, by decide⟩) cv_S_46 (ro_of he (by first | decide | omega) (by decide)) rfl rfl (by unfold mt_N; omega) (ce_B (by omega)) rfl rfl (Nat.le_of_ble_eq_true rfl) d_S_takeQuoted_4 (fun v m4 hv => ?_)
    obtain ⟨rfl, rfl⟩ := hv
    rw [hM]
    refine jj_aload_n h d_S_takeQuoted_7 rfl ⟨_, rfl⟩ ?_
    refine jj_bipush h d_S_takeQuoted_8 (by decide) ?_
    refine jj_callV h (cS_take ⟨by decide, by decide⟩ (h1.bw hw) s1 s2 p0 p1 (by rw [r4]; exact e1)) cv_S_58 (ro_of he (by first | decide | omega) (by decide)) rfl rfl (by decide) rfl rfl rfl (Nat.le_of_ble_eq_true rfl) d_S_takeQuoted_10 (fun v m10 hv => ?_)
    obtain ⟨rfl, rfl⟩ := hv.1 ⟨k.1, by rw [r12]; exact k.2⟩
    refine jj_if_ne h 18 d_S_takeQuoted_13 (by decide) ⟨by omega, by omega⟩ (fun _ => ?_) (fun q13 => absurd q13 (by omega))
    exact loop _ (p + 1) [] _ (Nat.le_refl _) (by omega) (by omega) (by show ((0 : Nat) : Int) ≤ _; omega) (h1.place _) (by rw [hq]; cases qtd (slc (mem 12) (p + 1) e) <;> rfl)
  · have hq : Q = none := by
      rw [← hQ]
      by_cases k1 : p < e
      · rw [slc_cons k1]
        show (if mem 12 p = 34 then some (slc (mem 12) (p + 1) e) else none).bind qtd = none
        rw [if_neg (fun z => k ⟨k1, z⟩)]; rfl
      · rw [slc_nil (by omega)]; rfl
    refine jj_aload_n h d_S_takeQuoted_0 rfl ⟨_, rfl⟩ ?_
    refine jj_g_S_word h  fl_S_20 d_S_takeQuoted_1 ?_
    refine jj_callV h (cB_empty ⟨by decide, by decide⟩) cv_S_46 (ro_of he (by first | decide | omega) (by decide)) rfl rfl (by unfold mt_N; omega) (ce_B (by omega)) rfl rfl (Nat.le_of_ble_eq_true rfl) d_S_takeQuoted_4 (fun v m4 hv => ?_)
    obtain ⟨rfl, rfl⟩ := hv
    rw [hM]
    refine jj_aload_n h d_S_takeQuoted_7 rfl ⟨_, rfl⟩ ?_
    refine jj_bipush h d_S_takeQuoted_8 (by decide) ?_
    refine jj_callV h (cS_take ⟨by decide, by decide⟩ (h1.bw hw) s1 s2 p0 p1 (by rw [r4]; exact e1)) cv_S_58 (ro_of he (by first | decide | omega) (by decide)) rfl rfl (by decide) rfl rfl rfl (Nat.le_of_ble_eq_true rfl) d_S_takeQuoted_10 (fun v m10 hv => ?_)
    obtain ⟨rfl, rfl⟩ := hv.2 (by rw [r12]; exact k)
    refine jj_if_ne h 18 d_S_takeQuoted_13 (by decide) ⟨by omega, by omega⟩ (fun q13 => absurd (by omega) q13) (fun _ => ?_)
    refine jj_iconst h d_S_takeQuoted_16 ?_
    refine jj_zret h he (by omega) d_S_takeQuoted_17 ?_
    exact ⟨fun w t z => (by rw [hq] at z; cases z), fun _ => ⟨rfl, [], p, Int.le_refl _, p1, h1⟩⟩
