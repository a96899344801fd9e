/-! The class: the boundary of an entity. -/
theorem par_suf {L : List Int} {q : Bool × List Int × List Int} (h : par L = some q) : q.2.2.length < L.length := by
  unfold par at h
  cases h1 : tk_ 59 L with
  | none => rw [h1] at h; cases h
  | some l1 =>
    rw [h1] at h
    have h : (atm (skp 0 l1)).bind _ = some q := h
    have s1 : (skp 0 l1).length ≤ l1.length := (skp_suf l1 0).length_le
    have sL : L.length = l1.length + 1 := by rw [tk_some h1]; rfl
    cases h2 : atm (skp 0 l1) with
    | none => rw [h2] at h; cases h
    | some a =>
      rw [h2] at h
      have h : (tk_ 61 (skp 0 a.2)).bind _ = some q := h
      have s2 : a.2.length ≤ (skp 0 l1).length := by
        unfold atm at h2
        split at h2
        · cases h2
        · rw [← Option.some.inj h2]; exact (dw_suf _ _).length_le
      have s3 : (skp 0 a.2).length ≤ a.2.length := (skp_suf a.2 0).length_le
      cases h3 : tk_ 61 (skp 0 a.2) with
      | none => rw [h3] at h; cases h
      | some l2 =>
        rw [h3] at h
        have s4 : l2.length ≤ (skp 0 a.2).length := (tk_suf h3).length_le
        have s5 : (skp 0 l2).length ≤ l2.length := (skp_suf l2 0).length_le
        have main : ∀ o : Option (List Int × List Int), (∀ w, o = some w → w.2.length ≤ (skp 0 l2).length) → o.map (fun (w : List Int × List Int) => (wd_ w_boundary a.1, w.1, skp 0 w.2)) = some q → q.2.2.length < L.length := by
          intro o ho hq
          cases o with
          | none => cases hq
          | some w =>
            have := ho w rfl
            rw [← Option.some.inj hq]
            have s6 : (skp 0 w.2).length ≤ w.2.length := (skp_suf w.2 0).length_le
            show (skp 0 w.2).length < L.length
            omega
        refine main _ (fun w hw => ?_) h
        cases h4 : tk_ 34 (skp 0 l2) with
        | some l3 =>
          rw [h4] at hw
          have := (qtd_suf l3 w hw).length_le
          have := (tk_suf h4).length_le
          omega
        | none =>
          rw [h4] at hw
          have hw : atm (skp 0 l2) = some w := hw
          unfold atm at hw
          split at hw
          · cases hw
          · rw [← Option.some.inj hw]; exact (dw_suf _ _).length_le
/-- what reading a boundary does -/
def bP (mem : mt_M) (N : Nat) (K : Int × List Int) (v : Option Value) (m' : mt_M) : Prop := v = none ∧ (K.1 ≠ 1 → fS N 0 mem m' ∧ m' (22 + N) 0 = mem (22 + N) 0) ∧ (K.1 = 1 → m' (22 + N) 0 = 1 ∧ m' (22 + N) 10 = mem 6 1 ∧ m' (22 + N) 11 = K.2.length ∧ (∀ z : Int, z ≠ 0 → z ≠ 10 → z ≠ 11 → m' (22 + N) z = mem (22 + N) z) ∧ (∀ r : Nat, r ≠ 7 → r ≠ 15 → r ≠ 18 → r ≠ 22 + N → r ≠ 6 → r ≠ 14 → m' r = mem r) ∧ bw_ m' 7 ∧ bw_ m' 6 ∧ up_ mem m' 6 ∧ m' 6 1 = mem 6 1 + K.2.length ∧ slc (m' 14) (mem 6 1) (mem 6 1 + K.2.length) = K.2)
theorem cT_readBoundary {G : mt_G} {l : Launch} {mem : mt_M} {N : Nat} {e nb0 : Int} {R W0 : List Int} (hN : N < 16) (h4 : bw_ mem 4) (h6 : bw_ mem 6) (hs : SL mem e R nb0 W0 mem) (hro : mem 6 1 + 20 ≤ 320) : CT G l y_T_readBoundary c_T_readBoundary 4 none 8 [vr G 17, vr G (22 + N)] mem (bP mem N (mlt R)) := by
  have hl4 : ln_ (4 + 8) = 320 := rfl
  have hl6 : ln_ (6 + 8) = 320 := rfl
  have h43 := h4.2.2.1
  have h60 := h6.2.1
  have hs1 := hs.2.1
  have hs2 := hs.2.2.1
  refine CT.intro (by decide) rfl (Nat.le_of_ble_eq_true rfl) (fun X h he => ?_)
  have hR0 : mlt R = mlk R.length R := rfl
  generalize hK : mlt R = K at *
  have no : ∀ (m : mt_M) (p nb : Int) (W : List Int), SR mem e p nb W m → K.1 ≠ 1 → bP mem N K none m := fun m p nb W hm hk => ⟨rfl, fun _ => ⟨hm.fS, by rw [hm.1 (22 + N) (by omega) (by omega) (by omega)]⟩, fun z => absurd z hk⟩
  have yes : ∀ (m : mt_M) (p nb : Int) (w : List Int) (t : Int), SR mem e p nb w m → K = (if bd_ w then (1, w) else (0, [])) → JJ G X 0 0 m 40 [some (vr G 17), some (vr G (22 + N)), some (vi 1), some (vi t)] [] := by
    intro m p nb w t hm hk
    have s5 := hm.2.2.2.2.1
    have s6 : slc (m 15) 0 w.length = w := hm.2.2.2.2.2.1
    have s7 := hm.2.2.2.2.2.2.1
    have s8 := hm.2.2.2.2.2.2.2
    have r6 : m 6 = mem 6 := hm.1 6 (by decide) (by decide) (by decide)
    have r14 : m 14 = mem 14 := hm.1 14 (by decide) (by decide) (by decide)
    by_cases hb : bd_ w = true
    · rw [if_pos hb] at hk
      have hb2 := of_decide_eq_true hb
      have fin : ∀ M : mt_M, st_ (st_ (st_ m (22 + N) 0 1) (22 + N) 10 (mem 6 1)) (22 + N) 11 w.length = M → JJ G X 0 0 M 84 [some (vr G 17), some (vr G (22 + N)), some (vi 1), some (vi t)] [] := by
        intro M hM
        have x0 : ∀ r : Nat, r ≠ 22 + N → M r = m r := fun r a => by rw [← hM, st_row a, st_row a, st_row a]
        have xk : ∀ z : Int, z ≠ 0 → z ≠ 10 → z ≠ 11 → M (22 + N) z = m (22 + N) z := fun z a b c => by rw [← hM, st_ne (Or.inr c), st_ne (Or.inr b), st_ne (Or.inr a)]
        have k0 : M (22 + N) 0 = 1 := by rw [← hM, st_ne (Or.inr (by decide)), st_ne (Or.inr (by decide)), st_same]
        have k10 : M (22 + N) 10 = mem 6 1 := by rw [← hM, st_ne (Or.inr (by decide)), st_same]
        have k11 : M (22 + N) 11 = w.length := by rw [← hM, st_same]
        have y7 := x0 7 (by omega)
        have y15 := x0 15 (by omega)
        have y6 : M 6 = mem 6 := by rw [x0 6 (by omega), r6]
        have y14 : M 14 = mem 14 := by rw [x0 14 (by omega), r14]
        have z5 : M 7 1 = w.length := by rw [y7]; exact s5
        have h7M : bw_ M 7 := hm.bw7.mov y7 y15
        have h6M : bw_ M 6 := h6.mov y6 y14
        obtain ⟨f1, f2, f3, f4⟩ := bL_fit (r := 6) w M (by rw [y6]; exact h60) (by rw [hl6, y6]; omega)
        have hw6 := h6M.bL s8 (by rw [hl6, y6]; omega)
        have hu6 := up_.bL (m := M) (r := 6) (A := w) (by rw [y6]; exact h60) (by rw [hl6, y6]; omega)
        have rr : ∀ r : Nat, r ≠ 6 → r ≠ 14 → bL_ M 6 w r = M r := fun r x y => bL_row x y _ _
        rw [y6] at f1 f4
        refine jj_aload_n h d_T_readBoundary_84 rfl ⟨_, rfl⟩ ?_
        refine jj_g_T_boundaries h  fl_T_26 d_T_readBoundary_85 ?_
        try simp only [z5]
        refine jj_aload_n h d_T_readBoundary_88 rfl ⟨_, rfl⟩ ?_
        refine jj_g_T_scanner h  fl_T_34 d_T_readBoundary_89 ?_
        try simp only [z5]
        refine jj_g_S_word h  fl_T_230 d_T_readBoundary_92 ?_
        try simp only [z5]
        refine jj_iconst h d_T_readBoundary_95 ?_
        refine jj_aload_n h d_T_readBoundary_96 rfl ⟨_, rfl⟩ ?_
        refine jj_g_T_scanner h  fl_T_34 d_T_readBoundary_97 ?_
        try simp only [z5]
        refine jj_g_S_word h  fl_T_230 d_T_readBoundary_100 ?_
        try simp only [z5]
        refine jj_g_B_size h (by omega) fl_T_68 d_T_readBoundary_103 ?_
        try simp only [z5]
        refine jj_callV h (cB_putRange (r := 6) ⟨by decide, by decide⟩ h7M (by decide) h6M.2.1 h6M.2.2.1 (by decide) (by omega) (by rw [z5]; omega)) cv_T_71 (ro_of he (by first | decide | omega) (by decide)) rfl rfl (by unfold mt_N; omega) (ce_B (by omega)) rfl rfl (Nat.le_of_ble_eq_true rfl) d_T_readBoundary_106 (fun v m106 hv => ?_)
        obtain ⟨rfl, hv⟩ := hv
        rw [show M (7 + 8) = m 15 from y15, s6] at hv
        subst hv
        refine jj_vret h he d_T_readBoundary_109 ?_
        rw [hk]
        refine ⟨rfl, fun z => absurd rfl z, fun _ => ⟨by rw [rr _ (by omega) (by omega)]; exact k0, by rw [rr _ (by omega) (by omega)]; exact k10, by rw [rr _ (by omega) (by omega)]; exact k11, fun z a b c => ?_, fun r a b c d e9 f9 => ?_, h7M.mov (rr _ (by decide) (by decide)) (rr _ (by decide) (by decide)), hw6, (up_.same (by rw [y6]) y14 : up_ mem M 6).trans hu6, f1, f4⟩⟩
        · rw [rr _ (by omega) (by omega), xk z a b c, hm.1 (22 + N) (by omega) (by omega) (by omega)]
        · rw [rr r e9 f9, x0 r d, hm.1 r a b c]
      refine jj_iload_n h d_T_readBoundary_40 rfl ?_
      refine jj_if_eq h 109 d_T_readBoundary_41 (by decide) ⟨by decide, by decide⟩ (fun q41 => absurd q41 ((by decide))) (fun _ => ?_)
      refine jj_aload_n h d_T_readBoundary_44 rfl ⟨_, rfl⟩ ?_
      refine jj_g_T_scanner h  fl_T_34 d_T_readBoundary_45 ?_
      refine jj_callV h (cS_canBe hm) cv_T_224 (ro_of he (by first | decide | omega) (by decide)) rfl rfl (by decide) rfl rfl rfl (Nat.le_of_ble_eq_true rfl) d_T_readBoundary_48 (fun v m48 hv => ?_)
      obtain ⟨rfl, rfl⟩ := hv
      rw [if_pos hb]
      refine jj_if_eq h 109 d_T_readBoundary_51 (by decide) ⟨by omega, by omega⟩ (fun q51 => absurd q51 (by omega)) (fun _ => ?_)
      refine jj_aload_n h d_T_readBoundary_54 rfl ⟨_, rfl⟩ ?_
      refine jj_iconst h d_T_readBoundary_55 ?_
      refine jj_p_E_kind h (by omega) fl_T_103 d_T_readBoundary_56 ?_
      refine jj_aload_n h d_T_readBoundary_59 rfl ⟨_, rfl⟩ ?_
      refine jj_aload_n h d_T_readBoundary_60 rfl ⟨_, rfl⟩ ?_
      refine jj_g_T_boundaries h  fl_T_26 d_T_readBoundary_61 ?_
      refine jj_g_B_size h (by omega) fl_T_68 d_T_readBoundary_64 ?_
      rw [st_row (by omega), r6]
      refine jj_p_E_boundaryBegin h (by omega) fl_T_227 d_T_readBoundary_67 ?_
      refine jj_aload_n h d_T_readBoundary_70 rfl ⟨_, rfl⟩ ?_
      refine jj_aload_n h d_T_readBoundary_71 rfl ⟨_, rfl⟩ ?_
      refine jj_g_T_scanner h  fl_T_34 d_T_readBoundary_72 ?_
      refine jj_g_S_word h  fl_T_230 d_T_readBoundary_75 ?_
      refine jj_g_B_size h (by omega) fl_T_68 d_T_readBoundary_78 ?_
      rw [st_row (by omega), st_row (by omega), s5]
      refine jj_p_E_boundarySize h (by omega) fl_T_233 d_T_readBoundary_81 ?_
      exact fin _ rfl
    · rw [if_neg hb] at hk
      refine jj_iload_n h d_T_readBoundary_40 rfl ?_
      refine jj_if_eq h 109 d_T_readBoundary_41 (by decide) ⟨by decide, by decide⟩ (fun q41 => absurd q41 ((by decide))) (fun _ => ?_)
      refine jj_aload_n h d_T_readBoundary_44 rfl ⟨_, rfl⟩ ?_
      refine jj_g_T_scanner h  fl_T_34 d_T_readBoundary_45 ?_
      refine jj_callV h (cS_canBe hm) cv_T_224 (ro_of he (by first | decide | omega) (by decide)) rfl rfl (by decide) rfl rfl rfl (Nat.le_of_ble_eq_true rfl) d_T_readBoundary_48 (fun v m48 hv => ?_)
      obtain ⟨rfl, rfl⟩ := hv
      rw [if_neg hb]
      refine jj_if_eq h 109 d_T_readBoundary_51 (by decide) ⟨by omega, by omega⟩ (fun _ => ?_) (fun q51 => absurd (by omega) q51)
      refine jj_vret h he d_T_readBoundary_109 ?_
      exact no m p nb w hm (by rw [hk]; decide)
  have none40 : ∀ (m : mt_M) (p nb : Int) (W : List Int) (t : Int), SR mem e p nb W m → K.1 ≠ 1 → JJ G X 0 0 m 40 [some (vr G 17), some (vr G (22 + N)), some (vi 0), some (vi t)] [] := by
    intro m p nb W t hm hk
    refine jj_iload_n h d_T_readBoundary_40 rfl ?_
    refine jj_if_eq h 109 d_T_readBoundary_41 (by decide) ⟨by decide, by decide⟩ (fun _ => ?_) (fun q41 => absurd (rfl) q41)
    refine jj_vret h he d_T_readBoundary_109 ?_
    exact no m p nb W hm hk
  have loop : ∀ (n : Nat) (L : List Int) (t : Int) (k : Nat) (m : mt_M) (nb : Int) (W : List Int), L.length ≤ n → 0 ≤ t → t + L.length ≤ 320 → L.length ≤ k → SL mem e L nb W m → K = mlk k L → JJ G X 0 0 m 4 [some (vr G 17), some (vr G (22 + N)), some (vi 0), some (vi t)] [] := by
    intro n
    induction n with
    | zero =>
      intro L t k m nb W k1 k2 k3 k4 k5 k6
      have hL : L = [] := List.length_eq_zero_iff.mp (by omega)
      subst hL
      have hk0 : K = (0, []) := by rw [k6]; unfold mlk; cases k <;> rfl
      have hpa : par [] = none := rfl
      by_cases ht : t < 320
      · refine jj_iload_n h d_T_readBoundary_4 rfl ?_
        refine jj_sipush h d_T_readBoundary_5 (by decide) ?_
        refine jj_icmp_ge h 40 d_T_readBoundary_8 (by decide) ⟨by omega, by omega⟩ ⟨by omega, by omega⟩ (fun q8 => absurd q8 (by omega)) (fun _ => ?_)
        refine jj_iload_n h d_T_readBoundary_11 rfl ?_
        refine jj_if_ne h 40 d_T_readBoundary_12 (by decide) ⟨by decide, by decide⟩ (fun q12 => absurd ((by decide)) q12) (fun _ => ?_)
        refine jj_aload_n h d_T_readBoundary_15 rfl ⟨_, rfl⟩ ?_
        refine jj_g_T_scanner h  fl_T_34 d_T_readBoundary_16 ?_
        refine jj_callV h (cS_takeParameter h4 k5) cv_T_217 (ro_of he (by first | decide | omega) (by decide)) rfl rfl (by decide) rfl rfl rfl (Nat.le_of_ble_eq_true rfl) d_T_readBoundary_19 (fun v m19 hv => ?_)
        unfold pC at hv
        rw [hpa] at hv
        obtain ⟨rfl, L', nb', W', g⟩ := hv
        refine jj_if_ne h 26 d_T_readBoundary_22 (by decide) ⟨by omega, by omega⟩ (fun q22 => absurd (by omega) q22) (fun _ => ?_)
        refine jj_vret h he d_T_readBoundary_25 ?_
        exact no _ _ _ _ g.1 (by rw [hk0]; decide)
      · refine jj_iload_n h d_T_readBoundary_4 rfl ?_
        refine jj_sipush h d_T_readBoundary_5 (by decide) ?_
        refine jj_icmp_ge h 40 d_T_readBoundary_8 (by decide) ⟨by omega, by omega⟩ ⟨by omega, by omega⟩ (fun _ => ?_) (fun q8 => absurd (by omega) q8)
        exact none40 m _ nb W t k5.1 (by rw [hk0]; decide)
    | succ n ih =>
      intro L t k m nb W k1 k2 k3 k4 k5 k6
      cases hp : par L with
      | none =>
        have hk0 : K = (0, []) := by
          rw [k6]; unfold mlk
          cases k with
          | zero => rfl
          | succ k => rw [show prs (k + 1) L = none by unfold prs; rw [hp]]
        by_cases ht : t < 320
        · refine jj_iload_n h d_T_readBoundary_4 rfl ?_
          refine jj_sipush h d_T_readBoundary_5 (by decide) ?_
          refine jj_icmp_ge h 40 d_T_readBoundary_8 (by decide) ⟨by omega, by omega⟩ ⟨by omega, by omega⟩ (fun q8 => absurd q8 (by omega)) (fun _ => ?_)
          refine jj_iload_n h d_T_readBoundary_11 rfl ?_
          refine jj_if_ne h 40 d_T_readBoundary_12 (by decide) ⟨by decide, by decide⟩ (fun q12 => absurd ((by decide)) q12) (fun _ => ?_)
          refine jj_aload_n h d_T_readBoundary_15 rfl ⟨_, rfl⟩ ?_
          refine jj_g_T_scanner h  fl_T_34 d_T_readBoundary_16 ?_
          refine jj_callV h (cS_takeParameter h4 k5) cv_T_217 (ro_of he (by first | decide | omega) (by decide)) rfl rfl (by decide) rfl rfl rfl (Nat.le_of_ble_eq_true rfl) d_T_readBoundary_19 (fun v m19 hv => ?_)
          unfold pC at hv
          rw [hp] at hv
          obtain ⟨rfl, L', nb', W', g⟩ := hv
          refine jj_if_ne h 26 d_T_readBoundary_22 (by decide) ⟨by omega, by omega⟩ (fun q22 => absurd (by omega) q22) (fun _ => ?_)
          refine jj_vret h he d_T_readBoundary_25 ?_
          exact no _ _ _ _ g.1 (by rw [hk0]; decide)
        · refine jj_iload_n h d_T_readBoundary_4 rfl ?_
          refine jj_sipush h d_T_readBoundary_5 (by decide) ?_
          refine jj_icmp_ge h 40 d_T_readBoundary_8 (by decide) ⟨by omega, by omega⟩ ⟨by omega, by omega⟩ (fun _ => ?_) (fun q8 => absurd (by omega) q8)
          exact none40 m _ nb W t k5.1 (by rw [hk0]; decide)
      | some q =>
        have hlen := par_suf hp
        obtain ⟨k, rfl⟩ : ∃ k', k = k' + 1 := ⟨k - 1, by omega⟩
        have p9 : prs (k + 1) L = if q.1 then some q.2.1 else prs k q.2.2 := by rw [prs]; rw [hp]
        cases hb : q.1 with
        | false =>
          rw [hb, if_neg (by decide)] at p9
          refine jj_iload_n h d_T_readBoundary_4 rfl ?_
          refine jj_sipush h d_T_readBoundary_5 (by decide) ?_
          refine jj_icmp_ge h 40 d_T_readBoundary_8 (by decide) ⟨by omega, by omega⟩ ⟨by omega, by omega⟩ (fun q8 => absurd q8 (by omega)) (fun _ => ?_)
          refine jj_iload_n h d_T_readBoundary_11 rfl ?_
          refine jj_if_ne h 40 d_T_readBoundary_12 (by decide) ⟨by decide, by decide⟩ (fun q12 => absurd ((by decide)) q12) (fun _ => ?_)
          refine jj_aload_n h d_T_readBoundary_15 rfl ⟨_, rfl⟩ ?_
          refine jj_g_T_scanner h  fl_T_34 d_T_readBoundary_16 ?_
          try simp only [s4]
          refine jj_callV h (cS_takeParameter h4 k5) cv_T_217 (ro_of he (by first | decide | omega) (by decide)) rfl rfl (by decide) rfl rfl rfl (Nat.le_of_ble_eq_true rfl) d_T_readBoundary_19 (fun v m19 hv => ?_)
          unfold pC at hv
          rw [hp] at hv
          obtain ⟨rfl, g⟩ := hv
          rw [hb, if_neg (by decide)] at g
          have s4 := g.1.2.2.2.1
          refine jj_if_ne h 26 d_T_readBoundary_22 (by decide) ⟨by omega, by omega⟩ (fun _ => ?_) (fun q22 => absurd q22 (by omega))
          refine jj_aload_n h d_T_readBoundary_26 rfl ⟨_, rfl⟩ ?_
          refine jj_g_T_scanner h  fl_T_34 d_T_readBoundary_27 ?_
          try simp only [s4]
          refine jj_g_S_namedBoundary h  fl_T_220 d_T_readBoundary_30 ?_
          try simp only [s4]
          refine jj_istore_n h d_T_readBoundary_33 (Nat.le_of_ble_eq_true rfl) rfl ?_
          refine jj_iinc h d_T_readBoundary_34 rfl rfl ?_
          refine jj_goto h 4 d_T_readBoundary_37 (by decide) ?_
          exact ih q.2.2 (t + 1) k _ _ _ (by omega) (by omega) (by omega) (by omega) g (by rw [k6]; unfold mlk; rw [p9])
        | true =>
          rw [hb, if_pos rfl] at p9
          have hk1 : K = if bd_ q.2.1 then (1, q.2.1) else (0, []) := by rw [k6]; unfold mlk; rw [p9]
          refine jj_iload_n h d_T_readBoundary_4 rfl ?_
          refine jj_sipush h d_T_readBoundary_5 (by decide) ?_
          refine jj_icmp_ge h 40 d_T_readBoundary_8 (by decide) ⟨by omega, by omega⟩ ⟨by omega, by omega⟩ (fun q8 => absurd q8 (by omega)) (fun _ => ?_)
          refine jj_iload_n h d_T_readBoundary_11 rfl ?_
          refine jj_if_ne h 40 d_T_readBoundary_12 (by decide) ⟨by decide, by decide⟩ (fun q12 => absurd ((by decide)) q12) (fun _ => ?_)
          refine jj_aload_n h d_T_readBoundary_15 rfl ⟨_, rfl⟩ ?_
          refine jj_g_T_scanner h  fl_T_34 d_T_readBoundary_16 ?_
          try simp only [s4]
          refine jj_callV h (cS_takeParameter h4 k5) cv_T_217 (ro_of he (by first | decide | omega) (by decide)) rfl rfl (by decide) rfl rfl rfl (Nat.le_of_ble_eq_true rfl) d_T_readBoundary_19 (fun v m19 hv => ?_)
          unfold pC at hv
          rw [hp] at hv
          obtain ⟨rfl, g⟩ := hv
          rw [hb, if_pos rfl] at g
          have s4 := g.1.2.2.2.1
          refine jj_if_ne h 26 d_T_readBoundary_22 (by decide) ⟨by omega, by omega⟩ (fun _ => ?_) (fun q22 => absurd q22 (by omega))
          refine jj_aload_n h d_T_readBoundary_26 rfl ⟨_, rfl⟩ ?_
          refine jj_g_T_scanner h  fl_T_34 d_T_readBoundary_27 ?_
          try simp only [s4]
          refine jj_g_S_namedBoundary h  fl_T_220 d_T_readBoundary_30 ?_
          try simp only [s4]
          refine jj_istore_n h d_T_readBoundary_33 (Nat.le_of_ble_eq_true rfl) rfl ?_
          refine jj_iinc h d_T_readBoundary_34 rfl rfl ?_
          refine jj_goto h 4 d_T_readBoundary_37 (by decide) ?_
          refine jj_iload_n h d_T_readBoundary_4 rfl ?_
          refine jj_sipush h d_T_readBoundary_5 (by decide) ?_
          refine jj_icmp_ge h 40 d_T_readBoundary_8 (by decide) ⟨by omega, by omega⟩ ⟨by decide, by decide⟩ (fun _ => ?_) (fun _ => ?_)
          · exact yes _ _ _ _ _ g.1 hk1
          · refine jj_iload_n h d_T_readBoundary_11 rfl ?_
            refine jj_if_ne h 40 d_T_readBoundary_12 (by decide) ⟨by decide, by decide⟩ (fun _ => ?_) (fun z => absurd z (by decide))
            exact yes _ _ _ _ _ g.1 hk1
  refine jj_iconst h d_T_readBoundary_0 ?_
  refine jj_istore_n h d_T_readBoundary_1 (Nat.le_of_ble_eq_true rfl) rfl ?_
  refine jj_iconst h d_T_readBoundary_2 ?_
  refine jj_istore_n h d_T_readBoundary_3 (Nat.le_of_ble_eq_true rfl) rfl ?_
  exact loop _ R 0 R.length mem nb0 W0 (Nat.le_refl _) (Int.le_refl _) (by omega) (Nat.le_refl _) hs hR0
