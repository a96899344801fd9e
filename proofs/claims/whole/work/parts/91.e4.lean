/-! The class: a field by its name; the encoding. -/
theorem fnd_q {w : List Int} {q : List Int × List Int} {t : List (List Int × List Int)} : fnd w (q :: t) = if wd_ w q.1 then some q.2 else fnd w t := by
  unfold fnd
  rw [List.find?_cons]
  cases wd_ w q.1 <;> rfl
theorem cT_fieldNamed {G : mt_G} {l : Launch} {mem : mt_M} {N i : Nat} {F : List (List Int × List Int)} (hi : i < 23) (hN : N < 16) (hF : cG mem N F) (hw : bw_ mem 3) : CT G l y_T_fieldNamed c_T_fieldNamed 5 (some (.object "MailTree$Field")) 6 [vr G 17, vr G (22 + N), vs G i] mem (fun v m' => mem = m' ∧ ((v = some .null ∧ fnd (tx_ i) F = none) ∨ ∃ (f : Nat) (q : List Int × List Int), F[f]? = some q ∧ v = some (vr G (54 + 8 * N + f)) ∧ fnd (tx_ i) F = some q.2)) := by
  have hsz := hw.2.2.1
  have hl9 : ln_ (3 + 8) = 320 := rfl
  refine CT.intro (by decide) rfl (Nat.le_of_ble_eq_true rfl) (fun X h he => ?_)
  obtain ⟨c1, c2, c3⟩ := hF
  have loop : ∀ (n f : Nat) (x4 : Option Value), F.length - f = n → f ≤ F.length → fnd (tx_ i) F = fnd (tx_ i) (F.drop f) → JJ G X 0 0 mem 2 [some (vr G 17), some (vr G (22 + N)), some (vs G i), some (vi f), x4] [] := by
    intro n
    induction n with
    | zero =>
      intro f x4 k1 k2 k3
      refine jj_iload_n h d_T_fieldNamed_2 rfl ?_
      refine jj_aload_n h d_T_fieldNamed_3 rfl ⟨_, rfl⟩ ?_
      refine jj_g_E_fieldCount h (by omega) fl_T_144 d_T_fieldNamed_4 ?_
      try simp only [c1]
      refine jj_icmp_ge h 60 d_T_fieldNamed_7 (by decide) ⟨by omega, by omega⟩ ⟨by omega, by omega⟩ (fun _ => ?_) (fun q7 => absurd (by omega) q7)
      refine jj_null h d_T_fieldNamed_60 ?_
      refine jj_aret h he ⟨_, rfl⟩ (Or.inl rfl) d_T_fieldNamed_61 ?_
      exact ⟨rfl, Or.inl ⟨rfl, by rw [k3, List.drop_eq_nil_of_le (by omega)]; rfl⟩⟩
    | succ n ih =>
      intro f x4 k1 k2 k3
      have hfl : f < F.length := by omega
      obtain ⟨q, hq⟩ : ∃ q, F[f]? = some q := ⟨_, List.getElem?_eq_getElem hfl⟩
      have hd : F.drop f = q :: F.drop (f + 1) := by
        rw [List.drop_eq_getElem_cons hfl]
        rw [List.getElem?_eq_getElem hfl] at hq
        rw [Option.some.inj hq]
      rw [hd, fnd_q] at k3
      obtain ⟨⟨a1, a2, a3, a4⟩, -⟩ := c3 f q hq
      generalize ha : mem (54 + 8 * N + f) 0 = a at *
      cases hb : wd_ (tx_ i) q.1 with
      | false =>
        rw [hb, if_neg (by decide)] at k3
        refine jj_iload_n h d_T_fieldNamed_2 rfl ?_
        refine jj_aload_n h d_T_fieldNamed_3 rfl ⟨_, rfl⟩ ?_
        refine jj_g_E_fieldCount h (by omega) fl_T_144 d_T_fieldNamed_4 ?_
        try simp only [c1, ha, a2]
        refine jj_icmp_ge h 60 d_T_fieldNamed_7 (by decide) ⟨by omega, by omega⟩ ⟨by omega, by omega⟩ (fun q7 => absurd q7 (by omega)) (fun _ => ?_)
        refine jj_iload_n h d_T_fieldNamed_10 rfl ?_
        refine jj_bipush h d_T_fieldNamed_11 (by decide) ?_
        refine jj_icmp_ge h 60 d_T_fieldNamed_13 (by decide) ⟨by omega, by omega⟩ ⟨by omega, by omega⟩ (fun q13 => absurd q13 (by omega)) (fun _ => ?_)
        refine jj_aload_n h d_T_fieldNamed_16 rfl ⟨_, rfl⟩ ?_
        refine jj_g_E_fields h (by omega) fl_T_147 d_T_fieldNamed_17 ?_
        try simp only [c1, ha, a2]
        refine jj_iload_n h d_T_fieldNamed_20 rfl ?_
        refine jj_aF h hN (by omega) (by omega) d_T_fieldNamed_21 ?_
        rw [show ((f : Int)).toNat = f from rfl]
        refine jj_astore h d_T_fieldNamed_22 ⟨_, rfl⟩ (Nat.le_of_ble_eq_true rfl) rfl ?_
        refine jj_aload_n h d_T_fieldNamed_24 rfl ⟨_, rfl⟩ ?_
        refine jj_g_T_source h  fl_T_14 d_T_fieldNamed_25 ?_
        try simp only [c1, ha, a2]
        refine jj_aload_n h d_T_fieldNamed_28 rfl ⟨_, rfl⟩ ?_
        refine jj_aload h d_T_fieldNamed_29 rfl ⟨_, rfl⟩ ?_
        refine jj_g_F_nameBegin h (by omega) fl_T_159 d_T_fieldNamed_31 ?_
        try simp only [c1, ha, a2]
        refine jj_aload h d_T_fieldNamed_34 rfl ⟨_, rfl⟩ ?_
        refine jj_g_F_nameBegin h (by omega) fl_T_159 d_T_fieldNamed_36 ?_
        try simp only [c1, ha, a2]
        refine jj_aload h d_T_fieldNamed_39 rfl ⟨_, rfl⟩ ?_
        refine jj_g_F_nameSize h (by omega) fl_T_162 d_T_fieldNamed_41 ?_
        try simp only [c1, ha, a2]
        refine jj_iadd h d_T_fieldNamed_44 ?_
        refine jj_callV h (cB_spells hi hw a1 (by omega) a3) cv_T_171 (ro_of he (by first | decide | omega) (by decide)) rfl rfl (by unfold mt_N; omega) (ce_B (by omega)) rfl rfl (Nat.le_of_ble_eq_true rfl) d_T_fieldNamed_45 (fun v m45 hv => ?_)
        obtain ⟨rfl, rfl⟩ := hv
        rw [show mem (3 + 8) = mem 11 from rfl, a4, hb, if_neg (by decide)]
        refine jj_if_eq h 54 d_T_fieldNamed_48 (by decide) ⟨by omega, by omega⟩ (fun _ => ?_) (fun q48 => absurd (by omega) q48)
        refine jj_iinc h d_T_fieldNamed_54 rfl rfl ?_
        refine jj_goto h 2 d_T_fieldNamed_57 (by decide) ?_
        exact ih (f + 1) _ (by omega) (by omega) k3
      | true =>
        rw [hb, if_pos rfl] at k3
        refine jj_iload_n h d_T_fieldNamed_2 rfl ?_
        refine jj_aload_n h d_T_fieldNamed_3 rfl ⟨_, rfl⟩ ?_
        refine jj_g_E_fieldCount h (by omega) fl_T_144 d_T_fieldNamed_4 ?_
        try simp only [c1, ha, a2]
        refine jj_icmp_ge h 60 d_T_fieldNamed_7 (by decide) ⟨by omega, by omega⟩ ⟨by omega, by omega⟩ (fun q7 => absurd q7 (by omega)) (fun _ => ?_)
        refine jj_iload_n h d_T_fieldNamed_10 rfl ?_
        refine jj_bipush h d_T_fieldNamed_11 (by decide) ?_
        refine jj_icmp_ge h 60 d_T_fieldNamed_13 (by decide) ⟨by omega, by omega⟩ ⟨by omega, by omega⟩ (fun q13 => absurd q13 (by omega)) (fun _ => ?_)
        refine jj_aload_n h d_T_fieldNamed_16 rfl ⟨_, rfl⟩ ?_
        refine jj_g_E_fields h (by omega) fl_T_147 d_T_fieldNamed_17 ?_
        try simp only [c1, ha, a2]
        refine jj_iload_n h d_T_fieldNamed_20 rfl ?_
        refine jj_aF h hN (by omega) (by omega) d_T_fieldNamed_21 ?_
        rw [show ((f : Int)).toNat = f from rfl]
        refine jj_astore h d_T_fieldNamed_22 ⟨_, rfl⟩ (Nat.le_of_ble_eq_true rfl) rfl ?_
        refine jj_aload_n h d_T_fieldNamed_24 rfl ⟨_, rfl⟩ ?_
        refine jj_g_T_source h  fl_T_14 d_T_fieldNamed_25 ?_
        try simp only [c1, ha, a2]
        refine jj_aload_n h d_T_fieldNamed_28 rfl ⟨_, rfl⟩ ?_
        refine jj_aload h d_T_fieldNamed_29 rfl ⟨_, rfl⟩ ?_
        refine jj_g_F_nameBegin h (by omega) fl_T_159 d_T_fieldNamed_31 ?_
        try simp only [c1, ha, a2]
        refine jj_aload h d_T_fieldNamed_34 rfl ⟨_, rfl⟩ ?_
        refine jj_g_F_nameBegin h (by omega) fl_T_159 d_T_fieldNamed_36 ?_
        try simp only [c1, ha, a2]
        refine jj_aload h d_T_fieldNamed_39 rfl ⟨_, rfl⟩ ?_
        refine jj_g_F_nameSize h (by omega) fl_T_162 d_T_fieldNamed_41 ?_
        try simp only [c1, ha, a2]
        refine jj_iadd h d_T_fieldNamed_44 ?_
        refine jj_callV h (cB_spells hi hw a1 (by omega) a3) cv_T_171 (ro_of he (by first | decide | omega) (by decide)) rfl rfl (by unfold mt_N; omega) (ce_B (by omega)) rfl rfl (Nat.le_of_ble_eq_true rfl) d_T_fieldNamed_45 (fun v m45 hv => ?_)
        obtain ⟨rfl, rfl⟩ := hv
        rw [show mem (3 + 8) = mem 11 from rfl, a4, hb, if_pos rfl]
        refine jj_if_eq h 54 d_T_fieldNamed_48 (by decide) ⟨by omega, by omega⟩ (fun q48 => absurd q48 (by omega)) (fun _ => ?_)
        refine jj_aload h d_T_fieldNamed_51 rfl ⟨_, rfl⟩ ?_
        refine jj_aret h he ⟨_, rfl⟩ (Or.inr ⟨_, rfl⟩) d_T_fieldNamed_53 ?_
        exact ⟨rfl, Or.inr ⟨f, q, hq, rfl, k3⟩⟩
  refine jj_iconst h d_T_fieldNamed_0 ?_
  refine jj_istore_n h d_T_fieldNamed_1 (Nat.le_of_ble_eq_true rfl) rfl ?_
  exact loop _ 0 _ rfl (by omega) rfl
theorem SL_start {mem : mt_M} {a e : Int} {V : List Int} (h7 : bw_ mem 7) (a0 : 0 ≤ a) (hV : e = a + V.length) (h1 : e ≤ mem 4 1) (hs : slc (mem 12) a e = V) : SL mem e V (mem 18 4) (slc (mem 15) 0 (mem 7 1)) (st_ (st_ mem 18 2 a) 18 3 e) := by
  have e1 : e - (V.length : Int) = a := by omega
  have hl : ((slc (mem 15) 0 (mem 7 1)).length : Int) = mem 7 1 := by rw [slc_lenI h7.2.1]; omega
  have hln : ln_ (7 + 8) = 320 := rfl
  have h73 := h7.2.2.1
  have h70 := h7.2.1
  refine ⟨⟨fun r x y z => by rw [st_row z, st_row z], ?_, ?_, ?_, ?_, ?_, by omega, slc_by (fun i i0 i1 => h7.2.2.2 i i0 i1)⟩, by omega, h1, by rw [e1]; exact hs⟩
  · rw [st_ne (by decide), st_same]; exact e1.symm
  · rw [st_same]
  · rw [st_ne (by decide), st_ne (by decide)]
  · rw [st_row (by decide), st_row (by decide)]; exact hl.symm
  · rw [st_row (by decide), st_row (by decide), hl]
/-- what the scanner and slot k of entity N may change -/
def fS (N : Nat) (k : Int) (m m' : mt_M) : Prop := (∀ r : Nat, r ≠ 7 → r ≠ 15 → r ≠ 18 → r ≠ 22 + N → m' r = m r) ∧ (∀ z : Int, z ≠ k → m' (22 + N) z = m (22 + N) z) ∧ bw_ m' 7
theorem SR.fS {mem m : mt_M} {e p nb : Int} {W : List Int} {N : Nat} {k : Int} (h : SR mem e p nb W m) : fS N k mem m := ⟨fun r a b c _ => h.1 r a b c, fun z _ => by rw [h.1 (22 + N) (by omega) (by omega) (by omega)], h.bw7⟩
theorem fS.put {N : Nat} {k v : Int} {m m' : mt_M} (h : fS N k m m') : fS N k m (st_ m' (22 + N) k v) := ⟨fun r a b c d => by rw [st_row d]; exact h.1 r a b c d, fun z hz => by rw [st_ne (Or.inr hz)]; exact h.2.1 z hz, h.2.2.mov (st_row (by omega)) (st_row (by omega))⟩
theorem cT_readEncoding {G : mt_G} {l : Launch} {mem : mt_M} {N : Nat} {F : List (List Int × List Int)} (hN : N < 16) (hF : cG mem N F) (hw : bw_ mem 3) (h4 : bw_ mem 4) (h7 : bw_ mem 7) (h3 : mem (22 + N) 3 = 0) : CT G l y_T_readEncoding c_T_readEncoding 3 none 7 [vr G 17, vr G (22 + N)] mem (fun v m' => v = none ∧ m' (22 + N) 3 = encO_ (fnd w_cte F) ∧ fS N 3 mem m') := by
  have hl4 : ln_ (4 + 8) = 320 := rfl
  have h43 := h4.2.2.1
  refine CT.intro (by decide) rfl (Nat.le_of_ble_eq_true rfl) (fun X h he => ?_)
  have fin : ∀ (m : mt_M) (e p nb : Int) (W : List Int), SR mem e p nb W m → encO_ (fnd w_cte F) = 0 → ((none : Option Value) = none ∧ m (22 + N) 3 = encO_ (fnd w_cte F) ∧ fS N 3 mem m) := fun m e p nb W hs hz => ⟨rfl, by rw [hz, hs.1 (22 + N) (by omega) (by omega) (by omega)]; exact h3, hs.fS⟩
  have fin2 : ∀ (m : mt_M) (e p nb : Int) (W : List Int) (z : Int), SR mem e p nb W m → encO_ (fnd w_cte F) = z → ((none : Option Value) = none ∧ st_ m (22 + N) 3 z (22 + N) 3 = encO_ (fnd w_cte F) ∧ fS N 3 mem (st_ m (22 + N) 3 z)) := fun m e p nb W z hs hz => ⟨rfl, by rw [hz, st_same], hs.fS.put⟩
  refine jj_aload_n h d_T_readEncoding_0 rfl ⟨_, rfl⟩ ?_
  refine jj_aload_n h d_T_readEncoding_1 rfl ⟨_, rfl⟩ ?_
  refine jj_ldcS h 0 rfl d_T_readEncoding_2 ?_
  refine jj_callV h (cT_fieldNamed (i := 0) (by decide) hN hF hw) cv_T_177 (ro_of he (by first | decide | omega) (by decide)) rfl rfl (by decide) rfl rfl rfl (Nat.le_of_ble_eq_true rfl) d_T_readEncoding_4 (fun v m4 hv => ?_)
  obtain ⟨rfl, hv⟩ := hv
  rcases hv with ⟨rfl, hn⟩ | ⟨f, q, hq, rfl, hn⟩
  · refine jj_astore_nN h d_T_readEncoding_7 (Nat.le_of_ble_eq_true rfl) rfl ?_
    refine jj_aload_nN h d_T_readEncoding_8 rfl ?_
    refine jj_ifnonnullN h d_T_readEncoding_9 ?_
    refine jj_vret h he d_T_readEncoding_12 ?_
    have hn' : fnd w_cte F = none := hn
    exact ⟨rfl, by rw [hn']; exact h3, ⟨fun _ _ _ _ _ => rfl, fun _ _ => rfl, h7⟩⟩
  have hn' : fnd w_cte F = some q.2 := hn
  obtain ⟨-, b1, b2, b3, b4⟩ := hF.2.2 f q hq
  have hfl := (List.getElem?_eq_some_iff.mp hq).1
  have hf8 := hF.2.1
  have g0 := SL_start (a := mem (54 + 8 * N + f) 2) (e := mem (54 + 8 * N + f) 2 + q.2.length) (V := q.2) h7 b1 rfl b3 b4
  generalize hE : mem (54 + 8 * N + f) 2 + (q.2.length : Int) = E at *
  generalize hV : q.2 = V at *
  have hen : encO_ (fnd w_cte F) = enc_ V := by rw [hn']; rfl
  refine jj_astore_n h d_T_readEncoding_7 ⟨_, rfl⟩ (Nat.le_of_ble_eq_true rfl) rfl ?_
  refine jj_aload_n h d_T_readEncoding_8 rfl ⟨_, rfl⟩ ?_
  refine jj_ifnonnull h 13 d_T_readEncoding_9 (by decide) ?_
  refine jj_aload_n h d_T_readEncoding_13 rfl ⟨_, rfl⟩ ?_
  refine jj_g_T_scanner h  fl_T_34 d_T_readEncoding_14 ?_
  try simp only [s1, s2]
  refine jj_aload_n h d_T_readEncoding_17 rfl ⟨_, rfl⟩ ?_
  refine jj_callV h (cS_start (by omega)) cv_T_181 (ro_of he (by first | decide | omega) (by decide)) rfl rfl (by decide) rfl rfl rfl (Nat.le_of_ble_eq_true rfl) d_T_readEncoding_18 (fun v m18 hv => ?_)
  obtain ⟨rfl, hv⟩ := hv
  rw [b2, hE] at hv
  subst hv
  refine jj_aload_n h d_T_readEncoding_21 rfl ⟨_, rfl⟩ ?_
  refine jj_g_T_scanner h  fl_T_34 d_T_readEncoding_22 ?_
  try simp only [s1, s2]
  refine jj_callV h (cS_skipL h4 g0) cv_T_184 (ro_of he (by first | decide | omega) (by decide)) rfl rfl (by decide) rfl rfl rfl (Nat.le_of_ble_eq_true rfl) d_T_readEncoding_25 (fun v m25 hv => ?_)
  obtain ⟨rfl, g1⟩ := hv
  refine jj_aload_n h d_T_readEncoding_28 rfl ⟨_, rfl⟩ ?_
  refine jj_g_T_scanner h  fl_T_34 d_T_readEncoding_29 ?_
  try simp only [s1, s2]
  refine jj_callV h (cS_atomL h4 g1) cv_T_187 (ro_of he (by first | decide | omega) (by decide)) rfl rfl (by decide) rfl rfl rfl (Nat.le_of_ble_eq_true rfl) d_T_readEncoding_32 (fun v m32 hv => ?_)
  obtain ⟨rfl, g2⟩ := hv
  by_cases e1 : (skp 0 V).takeWhile at_ = []
  · rw [if_pos e1]
    refine jj_if_ne h 39 d_T_readEncoding_35 (by decide) ⟨by decide, by decide⟩ (fun z => absurd rfl z) (fun _ => ?_)
    refine jj_vret h he d_T_readEncoding_38 ?_
    have e2 : atm (skp 0 V) = none := if_pos e1
    exact fin _ _ _ _ _ g2.1 (by rw [hen]; simp only [enc_, e2])
  rw [if_neg e1]
  have e2 : atm (skp 0 V) = some ((skp 0 V).takeWhile at_, (skp 0 V).dropWhile at_) := if_neg e1
  refine jj_if_ne h 39 d_T_readEncoding_35 (by decide) ⟨by omega, by omega⟩ (fun _ => ?_) (fun q35 => absurd q35 (by omega))
  refine jj_aload_n h d_T_readEncoding_39 rfl ⟨_, rfl⟩ ?_
  refine jj_g_T_scanner h  fl_T_34 d_T_readEncoding_40 ?_
  try simp only [s1, s2]
  refine jj_callV h (cS_skipL h4 g2) cv_T_184 (ro_of he (by first | decide | omega) (by decide)) rfl rfl (by decide) rfl rfl rfl (Nat.le_of_ble_eq_true rfl) d_T_readEncoding_43 (fun v m43 hv => ?_)
  obtain ⟨rfl, g3⟩ := hv
  have s1 := g3.1.2.1
  have s2 := g3.1.2.2.1
  have s3 := g3.2.1
  have s4 := g3.2.2.1
  refine jj_aload_n h d_T_readEncoding_46 rfl ⟨_, rfl⟩ ?_
  refine jj_g_T_scanner h  fl_T_34 d_T_readEncoding_47 ?_
  try simp only [s1, s2]
  refine jj_g_S_place h  fl_T_191 d_T_readEncoding_50 ?_
  try simp only [s1, s2]
  refine jj_aload_n h d_T_readEncoding_53 rfl ⟨_, rfl⟩ ?_
  refine jj_g_T_scanner h  fl_T_34 d_T_readEncoding_54 ?_
  try simp only [s1, s2]
  refine jj_g_S_end h  fl_T_194 d_T_readEncoding_57 ?_
  try simp only [s1, s2]
  refine jj_icmp_ge h 64 d_T_readEncoding_60 (by decide) ⟨by omega, by omega⟩ ⟨by omega, by omega⟩ (fun q60 => ?_) (fun q60 => ?_)
  · have e4 : skp 0 ((skp 0 V).dropWhile at_) = [] := List.length_eq_zero_iff.mp (by omega)
    refine jj_aload_n h d_T_readEncoding_64 rfl ⟨_, rfl⟩ ?_
    refine jj_g_T_scanner h  fl_T_34 d_T_readEncoding_65 ?_
    try simp only [s1, s2]
    refine jj_ldcS h 2 rfl d_T_readEncoding_68 ?_
    refine jj_callV h (cS_wordIs (i := 2) (by decide) g3.1) cv_T_197 (ro_of he (by first | decide | omega) (by decide)) rfl rfl (by decide) rfl rfl rfl (Nat.le_of_ble_eq_true rfl) d_T_readEncoding_70 (fun v m70 hv => ?_)
    obtain ⟨rfl, rfl⟩ := hv
    rw [show tx_ 2 = w_base64 from rfl]
    refine jj_if_eq h 84 d_T_readEncoding_73 (by decide) ⟨by split <;> omega, by split <;> omega⟩ (fun q73 => ?_) (fun q73 => ?_)
    · have e5 : ¬ wd_ w_base64 ((skp 0 V).takeWhile at_) = true := fun z => by rw [if_pos z] at q73; omega
      refine jj_aload_n h d_T_readEncoding_84 rfl ⟨_, rfl⟩ ?_
      refine jj_g_T_scanner h  fl_T_34 d_T_readEncoding_85 ?_
      try simp only [s1, s2]
      refine jj_ldcS h 3 rfl d_T_readEncoding_88 ?_
      refine jj_callV h (cS_wordIs (i := 3) (by decide) g3.1) cv_T_197 (ro_of he (by first | decide | omega) (by decide)) rfl rfl (by decide) rfl rfl rfl (Nat.le_of_ble_eq_true rfl) d_T_readEncoding_90 (fun v m90 hv => ?_)
      obtain ⟨rfl, rfl⟩ := hv
      rw [show tx_ 3 = w_qp from rfl]
      refine jj_if_eq h 101 d_T_readEncoding_93 (by decide) ⟨by split <;> omega, by split <;> omega⟩ (fun q93 => ?_) (fun q93 => ?_)
      · have e6 : ¬ wd_ w_qp ((skp 0 V).takeWhile at_) = true := fun z => by rw [if_pos z] at q93; omega
        refine jj_vret h he d_T_readEncoding_101 ?_
        exact fin _ _ _ _ _ g3.1 (by rw [hen]; simp only [enc_, e2, if_pos e4, if_neg e5, if_neg e6])
      · have e6 : wd_ w_qp ((skp 0 V).takeWhile at_) = true := Decidable.byContradiction fun z => q93 (by rw [if_neg z])
        refine jj_aload_n h d_T_readEncoding_96 rfl ⟨_, rfl⟩ ?_
        refine jj_iconst h d_T_readEncoding_97 ?_
        refine jj_p_E_encoding h (by omega) fl_T_201 d_T_readEncoding_98 ?_
        refine jj_vret h he d_T_readEncoding_101 ?_
        exact fin2 _ _ _ _ _ _ g3.1 (by rw [hen]; simp only [enc_, e2, if_pos e4, if_neg e5, if_pos e6])
    · have e5 : wd_ w_base64 ((skp 0 V).takeWhile at_) = true := Decidable.byContradiction fun z => q73 (by rw [if_neg z])
      refine jj_aload_n h d_T_readEncoding_76 rfl ⟨_, rfl⟩ ?_
      refine jj_iconst h d_T_readEncoding_77 ?_
      refine jj_p_E_encoding h (by omega) fl_T_201 d_T_readEncoding_78 ?_
      refine jj_goto h 101 d_T_readEncoding_81 (by decide) ?_
      refine jj_vret h he d_T_readEncoding_101 ?_
      exact fin2 _ _ _ _ _ _ g3.1 (by rw [hen]; simp only [enc_, e2, if_pos e4, if_pos e5])
  · refine jj_vret h he d_T_readEncoding_63 ?_
    have e4 : ¬ skp 0 ((skp 0 V).dropWhile at_) = [] := fun z => by rw [z] at q60; exact q60 (by show _ ≤ _ - ((0 : Nat) : Int); omega)
    exact fin _ _ _ _ _ g3.1 (by rw [hen]; simp only [enc_, e2, if_neg e4])
