/-! The class: an atom; the scanner's state by what is left of the value. -/
theorem cS_takeAtom {G : mt_G} {l : Launch} {mem m0 : mt_M} {e p nb : Int} {W0 : List Int} (hw : bw_ mem 4) (hs : SR mem e p nb W0 m0) (p0 : 0 ≤ p) (p1 : p ≤ e) (e1 : e ≤ mem 4 1) : CT G l y_S_takeAtom c_S_takeAtom 1 (some .boolean) 6 [vr G 18] m0 (fun v m' => v = some (vi (if (slc (mem 12) p e).takeWhile at_ = [] then 0 else 1)) ∧ SR mem e (e - ((slc (mem 12) p e).dropWhile at_).length) nb ((slc (mem 12) p e).takeWhile at_) m') := by
  have hsz := hw.2.2.1
  have hl9 : ln_ (4 + 8) = 320 := rfl
  refine CT.intro (by decide) rfl (Nat.le_of_ble_eq_true rfl) (fun X h he => ?_)
  generalize hA : (slc (mem 12) p e).takeWhile at_ = A at *
  generalize hD : (slc (mem 12) p e).dropWhile at_ = D at *
  have fin : ∀ (q : Int) (W : List Int) (m : mt_M), q ≤ e → SR mem e q nb W m → A = W → D = slc (mem 12) q e → JJ G X 0 0 m 66 [some (vr G 18)] [] := by
    intro q W m k0 k1 k2 k3
    subst k2
    have s5 := k1.2.2.2.2.1
    have hln : (D.length : Int) = e - q := by rw [k3]; exact slc_lenI k0
    have k1' : SR mem e (e - D.length) nb A m := by rw [hln, show e - (e - q) = q by omega]; exact k1
    have h320 := k1.2.2.2.2.2.2.1
    refine jj_aload_n h d_S_takeAtom_66 rfl ⟨_, rfl⟩ ?_
    refine jj_g_S_word h  fl_S_20 d_S_takeAtom_67 ?_
    try simp only [s5]
    refine jj_g_B_size h (by omega) fl_S_55 d_S_takeAtom_70 ?_
    try simp only [s5]
    refine jj_if_le h 80 d_S_takeAtom_73 (by decide) ⟨by omega, by omega⟩ (fun q73 => ?_) (fun q73 => ?_)
    · refine jj_iconst h d_S_takeAtom_80 ?_
      refine jj_zret h he (by omega) d_S_takeAtom_81 ?_
      exact ⟨by rw [if_pos (List.length_eq_zero_iff.mp (by omega))], k1'⟩
    · refine jj_iconst h d_S_takeAtom_76 ?_
      refine jj_goto h 81 d_S_takeAtom_77 (by decide) ?_
      refine jj_zret h he (by omega) d_S_takeAtom_81 ?_
      exact ⟨by rw [if_neg (fun z => by rw [z] at q73; exact q73 (by decide))], k1'⟩
  have loop : ∀ (n : Nat) (q : Int) (W : List Int) (m : mt_M), (e - q).toNat = n → p ≤ q → q ≤ e → (W.length : Int) ≤ q - p → SR mem e q nb W m → A = W ++ (slc (mem 12) q e).takeWhile at_ → D = (slc (mem 12) q e).dropWhile at_ → JJ G X 0 0 m 7 [some (vr G 18)] [] := by
    intro n
    induction n with
    | zero =>
      intro q W m k1 k2 k3 k4 k5 k6 k7
      have s1 : m 18 2 = q := k5.2.1
      have s2 : m 18 3 = e := k5.2.2.1
      have hn := slc_nil (f := mem 12) (p := q) (e := e) (by omega)
      rw [hn] at k6 k7
      refine jj_aload_n h d_S_takeAtom_7 rfl ⟨_, rfl⟩ ?_
      refine jj_g_S_place h  fl_S_29 d_S_takeAtom_8 ?_
      try simp only [s1, s2]
      refine jj_aload_n h d_S_takeAtom_11 rfl ⟨_, rfl⟩ ?_
      refine jj_g_S_end h  fl_S_35 d_S_takeAtom_12 ?_
      try simp only [s1, s2]
      refine jj_icmp_ge h 66 d_S_takeAtom_15 (by decide) ⟨by omega, by omega⟩ ⟨by omega, by omega⟩ (fun _ => ?_) (fun q15 => absurd (by omega) q15)
      exact fin q W m k3 k5 (by rw [k6]; exact List.append_nil _) (by rw [k7, hn]; rfl)
    | succ n ih =>
      intro q W m k1 k2 k3 k4 k5 k6 k7
      have s1 : m 18 2 = q := k5.2.1
      have s2 : m 18 3 = e := k5.2.2.1
      have r4 := k5.r4
      have r12 := k5.r12
      have hwm := k5.bw hw
      have u5 := k5.2.2.2.2.1
      have hby : 0 ≤ mem 12 q ∧ mem 12 q ≤ 255 := hw.2.2.2 q (by omega) (by omega)
      have hcs : slc (mem 12) q e = mem 12 q :: slc (mem 12) (q + 1) e := slc_cons (by omega)
      have t9 := k5.put hby (by omega)
      have u2 : bp_ m 7 (mem 12 q) 18 2 = q := t9.2.1
      cases hb : at_ (mem 12 q) with
      | false =>
        rw [hcs, List.takeWhile_cons_of_neg (by rw [hb]; decide)] at k6
        rw [hcs, List.dropWhile_cons_of_neg (by rw [hb]; decide), ← hcs] at k7
        refine jj_aload_n h d_S_takeAtom_7 rfl ⟨_, rfl⟩ ?_
        refine jj_g_S_place h  fl_S_29 d_S_takeAtom_8 ?_
        try simp only [s1, s2]
        refine jj_aload_n h d_S_takeAtom_11 rfl ⟨_, rfl⟩ ?_
        refine jj_g_S_end h  fl_S_35 d_S_takeAtom_12 ?_
        try simp only [s1, s2]
        refine jj_icmp_ge h 66 d_S_takeAtom_15 (by decide) ⟨by omega, by omega⟩ ⟨by omega, by omega⟩ (fun q15 => absurd q15 (by omega)) (fun _ => ?_)
        refine jj_aload_n h d_S_takeAtom_18 rfl ⟨_, rfl⟩ ?_
        refine jj_g_S_values h  fl_S_9 d_S_takeAtom_19 ?_
        try simp only [s1, s2]
        refine jj_aload_n h d_S_takeAtom_22 rfl ⟨_, rfl⟩ ?_
        refine jj_g_S_place h  fl_S_29 d_S_takeAtom_23 ?_
        try simp only [s1, s2]
        refine jj_callV h (cB_in hwm (by omega) (by rw [r4]; omega)) cv_S_38 (ro_of he (by first | decide | omega) (by decide)) rfl rfl (by unfold mt_N; omega) (ce_B (by omega)) rfl rfl (Nat.le_of_ble_eq_true rfl) d_S_takeAtom_26 (fun v m26 hv => ?_)
        obtain ⟨rfl, rfl⟩ := hv
        show JJ G X 0 0 m _ _ (vi (m 12 q) :: _)
        rw [r12]
        refine jj_callN h (cX_isAtomByte hby) cv_S_49 (ro_of he (by first | decide | omega) (by decide)) rfl rfl rfl (Nat.le_of_ble_eq_true rfl) d_S_takeAtom_29 (fun v m29 hv => ?_)
        obtain ⟨rfl, rfl⟩ := hv
        rw [hb, if_neg (by decide)]
        refine jj_if_eq h 66 d_S_takeAtom_32 (by decide) ⟨by omega, by omega⟩ (fun _ => ?_) (fun q32 => absurd (by omega) q32)
        exact fin q W m k3 k5 (by rw [k6]; exact List.append_nil _) k7
      | true =>
        rw [hcs, List.takeWhile_cons_of_pos hb] at k6
        rw [hcs, List.dropWhile_cons_of_pos hb] at k7
        refine jj_aload_n h d_S_takeAtom_7 rfl ⟨_, rfl⟩ ?_
        refine jj_g_S_place h  fl_S_29 d_S_takeAtom_8 ?_
        try simp only [s1, s2, u2]
        refine jj_aload_n h d_S_takeAtom_11 rfl ⟨_, rfl⟩ ?_
        refine jj_g_S_end h  fl_S_35 d_S_takeAtom_12 ?_
        try simp only [s1, s2, u2]
        refine jj_icmp_ge h 66 d_S_takeAtom_15 (by decide) ⟨by omega, by omega⟩ ⟨by omega, by omega⟩ (fun q15 => absurd q15 (by omega)) (fun _ => ?_)
        refine jj_aload_n h d_S_takeAtom_18 rfl ⟨_, rfl⟩ ?_
        refine jj_g_S_values h  fl_S_9 d_S_takeAtom_19 ?_
        try simp only [s1, s2, u2]
        refine jj_aload_n h d_S_takeAtom_22 rfl ⟨_, rfl⟩ ?_
        refine jj_g_S_place h  fl_S_29 d_S_takeAtom_23 ?_
        try simp only [s1, s2, u2]
        refine jj_callV h (cB_in hwm (by omega) (by rw [r4]; omega)) cv_S_38 (ro_of he (by first | decide | omega) (by decide)) rfl rfl (by unfold mt_N; omega) (ce_B (by omega)) rfl rfl (Nat.le_of_ble_eq_true rfl) d_S_takeAtom_26 (fun v m26 hv => ?_)
        obtain ⟨rfl, rfl⟩ := hv
        show JJ G X 0 0 m _ _ (vi (m 12 q) :: _)
        rw [r12]
        refine jj_callN h (cX_isAtomByte hby) cv_S_49 (ro_of he (by first | decide | omega) (by decide)) rfl rfl rfl (Nat.le_of_ble_eq_true rfl) d_S_takeAtom_29 (fun v m29 hv => ?_)
        obtain ⟨rfl, rfl⟩ := hv
        rw [hb, if_pos rfl]
        refine jj_if_eq h 66 d_S_takeAtom_32 (by decide) ⟨by omega, by omega⟩ (fun q32 => absurd q32 (by omega)) (fun _ => ?_)
        refine jj_aload_n h d_S_takeAtom_35 rfl ⟨_, rfl⟩ ?_
        refine jj_g_S_word h  fl_S_20 d_S_takeAtom_36 ?_
        try simp only [s1, s2, u2]
        refine jj_aload_n h d_S_takeAtom_39 rfl ⟨_, rfl⟩ ?_
        refine jj_g_S_values h  fl_S_9 d_S_takeAtom_40 ?_
        try simp only [s1, s2, u2]
        refine jj_aload_n h d_S_takeAtom_43 rfl ⟨_, rfl⟩ ?_
        refine jj_g_S_place h  fl_S_29 d_S_takeAtom_44 ?_
        try simp only [s1, s2, u2]
        refine jj_callV h (cB_in hwm (by omega) (by rw [r4]; omega)) cv_S_38 (ro_of he (by first | decide | omega) (by decide)) rfl rfl (by unfold mt_N; omega) (ce_B (by omega)) rfl rfl (Nat.le_of_ble_eq_true rfl) d_S_takeAtom_47 (fun v m47 hv => ?_)
        obtain ⟨rfl, rfl⟩ := hv
        show JJ G X 0 0 m _ _ (vi (m 12 q) :: _)
        rw [r12]
        refine jj_callV h (cB_put ⟨by decide, by decide⟩ (by rw [u5]; omega) (by rw [u5]; show (W.length : Int) ≤ 320; omega)) cv_S_52 (ro_of he (by first | decide | omega) (by decide)) rfl rfl (by unfold mt_N; omega) (ce_B (by omega)) rfl rfl (Nat.le_of_ble_eq_true rfl) d_S_takeAtom_50 (fun v m50 hv => ?_)
        obtain ⟨rfl, rfl⟩ := hv
        refine jj_aload_n h d_S_takeAtom_53 rfl ⟨_, rfl⟩ ?_
        refine jj_dup h d_S_takeAtom_54 rfl ?_
        refine jj_g_S_place h  fl_S_29 d_S_takeAtom_55 ?_
        try simp only [s1, s2, u2]
        refine jj_iconst h d_S_takeAtom_58 ?_
        refine jj_iadd h d_S_takeAtom_59 ?_
        refine jj_p_S_place h  fl_S_29 d_S_takeAtom_60 ?_
        refine jj_goto h 7 d_S_takeAtom_63 (by decide) ?_
        exact ih (q + 1) (W ++ [mem 12 q]) _ (by omega) (by omega) (by omega) (by rw [List.length_append]; show ((W.length + 1 : Nat) : Int) ≤ _; omega) (t9.place _) (by rw [k6, List.append_assoc]; rfl) k7
  have h1 := hs.empty
  refine jj_aload_n h d_S_takeAtom_0 rfl ⟨_, rfl⟩ ?_
  refine jj_g_S_word h  fl_S_20 d_S_takeAtom_1 ?_
  refine jj_callV h (cB_empty ⟨by decide, by decide⟩) cv_S_46 (ro_of he (by first | decide | omega) (by decide)) rfl rfl (by unfold mt_N; omega) (ce_B (by omega)) rfl rfl (Nat.le_of_ble_eq_true rfl) d_S_takeAtom_4 (fun v m4 hv => ?_)
  obtain ⟨rfl, rfl⟩ := hv
  exact loop _ p [] _ rfl (Int.le_refl _) p1 (by show ((0 : Nat) : Int) ≤ _; omega) h1 hA.symm hD.symm
def SL (mem : mt_M) (e : Int) (L : List Int) (nb : Int) (W : List Int) (m : mt_M) : Prop := SR mem e (e - L.length) nb W m ∧ 0 ≤ e - L.length ∧ e ≤ mem 4 1 ∧ slc (mem 12) (e - L.length) e = L
section SLs
variable {G : mt_G} {l : Launch} {mem m : mt_M} {e nb : Int} {W L : List Int}
theorem SL.suf {L' W' : List Int} {nb' : Int} {m' : mt_M} (h : SL mem e L nb W m) (hL : L' <:+ L) (hm : SR mem e (e - L'.length) nb' W' m') : SL mem e L' nb' W' m' := by
  have h1 := slc_suf (f := mem 12) (a := e - L.length) (s := e) (by omega) (l' := L') (by rw [h.2.2.2]; exact hL)
  exact ⟨hm, by have := h.2.1; omega, h.2.2.1, h1.1⟩
theorem SL.to {W' : List Int} {nb' : Int} {m' : mt_M} (h : SL mem e L nb W m) (hm : SR mem e (e - L.length) nb' W' m') : SL mem e L nb' W' m' := ⟨hm, h.2⟩
theorem SL.at {p' : Int} {W' : List Int} {nb' : Int} {m' : mt_M} (h : SL mem e L nb W m) (h1 : e - L.length ≤ p') (h2 : p' ≤ e) (hm : SR mem e p' nb' W' m') : SL mem e (slc (mem 12) p' e) nb' W' m' := by
  have hl := slc_lenI (f := mem 12) h2
  have e1 : e - ((slc (mem 12) p' e).length : Int) = p' := by omega
  have := h.2.1
  exact ⟨by rw [e1]; exact hm, by omega, h.2.2.1, by rw [e1]⟩
theorem cS_takeL {c : Int} (hc : r32 c) (hw : bw_ mem 4) (h : SL mem e L nb W m) : CT G l y_S_take c_S_take 2 (some .boolean) 2 [vr G 18, vi c] m (fun v m' => match tk_ c L with
    | none => v = some (vi 0) ∧ SL mem e L nb W m'
    | some l1 => v = some (vi 1) ∧ SL mem e l1 nb W m') := by
  refine (cS_take hc (h.1.bw hw) h.1.2.1 h.1.2.2.1 h.2.1 (by omega) (by rw [h.1.r4]; exact h.2.2.1)).mono (fun v m1 hv => ?_)
  rw [h.1.r12] at hv
  cases L with
  | nil =>
    rw [show tk_ c [] = none from rfl]
    obtain ⟨rfl, rfl⟩ := hv.2 (fun z => by have := z.1; rw [List.length_nil] at this; omega)
    exact ⟨rfl, h⟩
  | cons b t =>
    have hcs := h.2.2.2
    have hl : e - ((b :: t).length : Int) < e := by rw [List.length_cons]; omega
    rw [slc_cons hl] at hcs
    obtain ⟨hb, ht⟩ := List.cons.inj hcs
    by_cases k : b = c
    · rw [show tk_ c (b :: t) = some t from if_pos k]
      obtain ⟨rfl, rfl⟩ := hv.1 ⟨hl, by rw [hb]; exact k⟩
      refine ⟨rfl, h.suf (List.suffix_cons b t) ?_⟩
      have e9 : e - ((b :: t).length : Int) + 1 = e - t.length := by rw [List.length_cons]; omega
      rw [e9]
      exact h.1.place _
    · rw [show tk_ c (b :: t) = none from if_neg k]
      obtain ⟨rfl, rfl⟩ := hv.2 (fun z => k (by rw [← hb]; exact z.2))
      exact ⟨rfl, h⟩
theorem cS_skipL (hw : bw_ mem 4) (h : SL mem e L nb W m) : CT G l y_S_skipSpace c_S_skipSpace 3 none 2 [vr G 18] m (fun v m' => v = none ∧ SL mem e (skp 0 L) nb W m') := by
  refine (cS_skipSpace (h.1.bw hw) h.1.2.1 h.1.2.2.1 h.2.1 (by omega) (by rw [h.1.r4]; exact h.2.2.1)).mono (fun v m1 hv => ?_)
  rw [h.1.r12, h.2.2.2] at hv
  obtain ⟨rfl, rfl⟩ := hv
  exact ⟨rfl, h.suf (skp_suf L 0) (h.1.place _)⟩
theorem cS_atomL (hw : bw_ mem 4) (h : SL mem e L nb W m) : CT G l y_S_takeAtom c_S_takeAtom 1 (some .boolean) 6 [vr G 18] m (fun v m' => v = some (vi (if L.takeWhile at_ = [] then 0 else 1)) ∧ SL mem e (L.dropWhile at_) nb (L.takeWhile at_) m') := by
  refine (cS_takeAtom hw h.1 h.2.1 (by omega) h.2.2.1).mono (fun v m1 hv => ?_)
  rw [h.2.2.2] at hv
  exact ⟨hv.1, h.suf (dw_suf _ _) hv.2⟩
theorem cS_quotedL (hw : bw_ mem 4) (h : SL mem e L nb W m) : CT G l y_S_takeQuoted c_S_takeQuoted 1 (some .boolean) 3 [vr G 18] m (fun v m' => match (tk_ 34 L).bind qtd with
    | none => v = some (vi 0) ∧ ∃ L' W', SL mem e L' nb W' m'
    | some q => v = some (vi 1) ∧ SL mem e q.2 nb q.1 m') := by
  refine (cS_takeQuoted hw h.1 h.2.1 (by omega) h.2.2.1).mono (fun v m1 hv => ?_)
  rw [h.2.2.2] at hv
  cases hq : (tk_ 34 L).bind qtd with
  | none =>
    obtain ⟨rfl, w, p', a1, a2, a3⟩ := hv.2 hq
    exact ⟨rfl, _, w, h.at a1 a2 a3⟩
  | some q =>
    obtain ⟨rfl, a⟩ := hv.1 q.1 q.2 hq
    refine ⟨rfl, h.suf ?_ a⟩
    cases hk : tk_ 34 L with
    | none => rw [hk] at hq; cases hq
    | some l3 =>
      rw [hk] at hq
      exact (qtd_suf l3 q hq).trans (tk_suf hk)
theorem SR.bw7 {p : Int} (h : SR mem e p nb W m) : bw_ m 7 := by
  obtain ⟨-, -, -, -, h5, h6, h7, h8⟩ := h
  refine ⟨⟨by decide, by decide⟩, by rw [h5]; omega, by rw [h5]; show (W.length : Int) ≤ 320; omega, fun i i0 i1 => ?_⟩
  rw [h5] at i1
  have := slc_get (f := m 15) (p := 0) (e := W.length) i0 (by omega)
  rw [h6, Int.zero_add] at this
  exact h8 _ (List.mem_of_getElem? this)
theorem cS_wordIs {i : Nat} {p : Int} (hi : i < 23) (hs : SR mem e p nb W m) : CT G l y_S_wordIs c_S_wordIs 2 (some .boolean) 6 [vr G 18, vs G i] m (fun v m' => v = some (vi (if wd_ (tx_ i) W then 1 else 0)) ∧ m = m') := by
  have h5 := hs.2.2.2.2.1
  have h6 : slc (m (7 + 8)) 0 W.length = W := hs.2.2.2.2.2.1
  have h7 := hs.2.2.2.2.2.2.1
  refine CT.intro (by decide) rfl (Nat.le_of_ble_eq_true rfl) (fun X h he => ?_)
  refine jj_aload_n h d_S_wordIs_0 rfl ⟨_, rfl⟩ ?_
  refine jj_g_S_word h  fl_S_20 d_S_wordIs_1 ?_
  try simp only [h5]
  refine jj_aload_n h d_S_wordIs_4 rfl ⟨_, rfl⟩ ?_
  refine jj_iconst h d_S_wordIs_5 ?_
  refine jj_aload_n h d_S_wordIs_6 rfl ⟨_, rfl⟩ ?_
  refine jj_g_S_word h  fl_S_20 d_S_wordIs_7 ?_
  try simp only [h5]
  refine jj_g_B_size h (by omega) fl_S_55 d_S_wordIs_10 ?_
  try simp only [h5]
  refine jj_callV h (cB_spells hi hs.bw7 (by omega) (by omega) (by rw [h5]; omega)) cv_S_81 (ro_of he (by first | decide | omega) (by decide)) rfl rfl (by unfold mt_N; omega) (ce_B (by omega)) rfl rfl (Nat.le_of_ble_eq_true rfl) d_S_wordIs_13 (fun v m13 hv => ?_)
  obtain ⟨rfl, rfl⟩ := hv
  rw [h6]
  refine jj_zret h he (by split <;> omega) d_S_wordIs_16 ?_
  exact ⟨rfl, rfl⟩
end SLs
