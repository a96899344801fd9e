/-! The class: the kind of an entity. -/
def kv_ (V : List Int) : Option (List Int × List Int × List Int) := (atm (skp 0 V)).bind fun q => (tk_ 47 (skp 0 q.2)).bind fun l2 => (atm (skp 0 l2)).map fun r => (q.1, r.1, skp 0 r.2)
theorem knd_kv (V : List Int) : knd V = kn2 (kv_ V) := rfl
def kP (N : Nat) (o : Option (List Int × List Int × List Int)) (v : Option Value) (m' : mt_M) : Prop := match o with
  | none => v = some (vi 0) ∧ m' (22 + N) 0 = 0
  | some q => v = some (vi (if wd_ w_multipart q.1 then 1 else 0)) ∧ m' (22 + N) 0 = (if wd_ w_message q.1 ∧ wd_ w_rfc822 q.2.1 then 2 else 0) ∧ ∃ (e nb : Int) (W : List Int), SL m' e q.2.2 nb W m'
theorem SL.self {mem m : mt_M} {e nb : Int} {W L : List Int} (h : SL mem e L nb W m) : SL m e L nb W m := by
  obtain ⟨⟨-, h2⟩, h3, h4, h5⟩ := id h
  refine ⟨⟨fun _ _ _ _ => rfl, h2⟩, h3, by rw [h.1.r4]; exact h4, by rw [h.1.r12]; exact h5⟩
theorem SL.ent {m : mt_M} {e nb : Int} {W L : List Int} {N : Nat} {k v : Int} (h : SL m e L nb W m) : SL (st_ m (22 + N) k v) e L nb W (st_ m (22 + N) k v) := by
  obtain ⟨⟨-, h2, h2b, h2c, h2d, h2e, h2f⟩, h3, h4, h5⟩ := h
  refine ⟨⟨fun _ _ _ _ => rfl, ?_, ?_, ?_, ?_, ?_, h2f⟩, h3, ?_, ?_⟩
  · rw [st_row (by omega)]; exact h2
  · rw [st_row (by omega)]; exact h2b
  · rw [st_row (by omega)]; exact h2c
  · rw [st_row (by omega)]; exact h2d
  · rw [st_row (by omega)]; exact h2e
  · rw [st_row (by omega)]; exact h4
  · rw [st_row (by omega)]; exact h5
theorem cT_readKind {G : mt_G} {l : Launch} {mem : mt_M} {N : Nat} {F : List (List Int × List Int)} (hN : N < 16) (hF : cG mem N F) (hw : bw_ mem 3) (h4 : bw_ mem 4) (h7 : bw_ mem 7) (h0 : mem (22 + N) 0 = 0) : CT G l y_T_readKind c_T_readKind 5 (some .boolean) 7 [vr G 17, vr G (22 + N)] mem (fun v m' => fS N 0 mem m' ∧ kP N ((fnd w_ctype F).bind kv_) v m') := by
  have hl4 : ln_ (4 + 8) = 320 := rfl
  have h43 := h4.2.2.1
  refine CT.intro (by decide) rfl (Nat.le_of_ble_eq_true rfl) (fun X h he => ?_)
  have fin : ∀ (m : mt_M) (e p nb : Int) (W : List Int), SR mem e p nb W m → (fnd w_ctype F).bind kv_ = none → (fS N 0 mem m ∧ kP N ((fnd w_ctype F).bind kv_) (some (vi 0)) m) := fun m e p nb W hs hz => ⟨hs.fS, by unfold kP; rw [hz]; exact ⟨rfl, by rw [hs.1 (22 + N) (by omega) (by omega) (by omega)]; exact h0⟩⟩
  refine jj_aload_n h d_T_readKind_0 rfl ⟨_, rfl⟩ ?_
  refine jj_aload_n h d_T_readKind_1 rfl ⟨_, rfl⟩ ?_
  refine jj_ldcS h 4 rfl d_T_readKind_2 ?_
  refine jj_callV h (cT_fieldNamed (i := 4) (by decide) hN hF hw) cv_T_177 (ro_of he (by first | decide | omega) (by decide)) rfl rfl (by decide) rfl rfl rfl (Nat.le_of_ble_eq_true rfl) d_T_readKind_4 (fun v m4 hv => ?_)
  obtain ⟨rfl, hv⟩ := hv
  rcases hv with ⟨rfl, hn⟩ | ⟨f, q, hq, rfl, hn⟩
  · refine jj_astore_nN h d_T_readKind_7 (Nat.le_of_ble_eq_true rfl) rfl ?_
    refine jj_aload_nN h d_T_readKind_8 rfl ?_
    refine jj_ifnonnullN h d_T_readKind_9 ?_
    refine jj_iconst h d_T_readKind_12 ?_
    refine jj_zret h he (by omega) d_T_readKind_13 ?_
    have hn' : fnd w_ctype F = none := hn
    exact ⟨⟨fun _ _ _ _ _ => rfl, fun _ _ => rfl, h7⟩, by rw [hn']; exact ⟨rfl, h0⟩⟩
  have hn' : fnd w_ctype F = some q.2 := hn
  obtain ⟨-, b1, b2, b3, b4⟩ := hF.2.2 f q hq
  have hfl := (List.getElem?_eq_some_iff.mp hq).1
  have hf8 := hF.2.1
  have g0 := SL_start (a := mem (54 + 8 * N + f) 2) (e := mem (54 + 8 * N + f) 2 + q.2.length) (V := q.2) h7 b1 rfl b3 b4
  generalize hE : mem (54 + 8 * N + f) 2 + (q.2.length : Int) = E at *
  generalize hV : q.2 = V at *
  have hkv : (fnd w_ctype F).bind kv_ = kv_ V := by rw [hn']; rfl
  rw [hkv] at he fin
  refine jj_astore_n h d_T_readKind_7 ⟨_, rfl⟩ (Nat.le_of_ble_eq_true rfl) rfl ?_
  refine jj_aload_n h d_T_readKind_8 rfl ⟨_, rfl⟩ ?_
  refine jj_ifnonnull h 14 d_T_readKind_9 (by decide) ?_
  refine jj_aload_n h d_T_readKind_14 rfl ⟨_, rfl⟩ ?_
  refine jj_g_T_scanner h  fl_T_34 d_T_readKind_15 ?_
  refine jj_aload_n h d_T_readKind_18 rfl ⟨_, rfl⟩ ?_
  refine jj_callV h (cS_start (by omega)) cv_T_181 (ro_of he (by first | decide | omega) (by decide)) rfl rfl (by decide) rfl rfl rfl (Nat.le_of_ble_eq_true rfl) d_T_readKind_19 (fun v m19 hv => ?_)
  obtain ⟨rfl, hv⟩ := hv
  rw [b2, hE] at hv
  subst hv
  refine jj_aload_n h d_T_readKind_22 rfl ⟨_, rfl⟩ ?_
  refine jj_g_T_scanner h  fl_T_34 d_T_readKind_23 ?_
  refine jj_callV h (cS_skipL h4 g0) cv_T_184 (ro_of he (by first | decide | omega) (by decide)) rfl rfl (by decide) rfl rfl rfl (Nat.le_of_ble_eq_true rfl) d_T_readKind_26 (fun v m26 hv => ?_)
  obtain ⟨rfl, g1⟩ := hv
  refine jj_aload_n h d_T_readKind_29 rfl ⟨_, rfl⟩ ?_
  refine jj_g_T_scanner h  fl_T_34 d_T_readKind_30 ?_
  refine jj_callV h (cS_atomL h4 g1) cv_T_187 (ro_of he (by first | decide | omega) (by decide)) rfl rfl (by decide) rfl rfl rfl (Nat.le_of_ble_eq_true rfl) d_T_readKind_33 (fun v m33 hv => ?_)
  obtain ⟨rfl, g2⟩ := hv
  by_cases e1 : (skp 0 V).takeWhile at_ = []
  · rw [if_pos e1]
    refine jj_if_ne h 41 d_T_readKind_36 (by decide) ⟨by decide, by decide⟩ (fun z => absurd rfl z) (fun _ => ?_)
    refine jj_iconst h d_T_readKind_39 ?_
    refine jj_zret h he (by omega) d_T_readKind_40 ?_
    exact fin _ _ _ _ _ g2.1 (by unfold kv_; rw [show atm (skp 0 V) = none from if_pos e1]; rfl)
  rw [if_neg e1]
  have p1 : atm (skp 0 V) = some ((skp 0 V).takeWhile at_, (skp 0 V).dropWhile at_) := if_neg e1
  refine jj_if_ne h 41 d_T_readKind_36 (by decide) ⟨by omega, by omega⟩ (fun _ => ?_) (fun q36 => absurd q36 (by omega))
  refine jj_aload_n h d_T_readKind_41 rfl ⟨_, rfl⟩ ?_
  refine jj_g_T_scanner h  fl_T_34 d_T_readKind_42 ?_
  refine jj_ldcS h 5 rfl d_T_readKind_45 ?_
  refine jj_callV h (cS_wordIs (i := 5) (by decide) g2.1) cv_T_197 (ro_of he (by first | decide | omega) (by decide)) rfl rfl (by decide) rfl rfl rfl (Nat.le_of_ble_eq_true rfl) d_T_readKind_47 (fun v m47 hv => ?_)
  obtain ⟨rfl, rfl⟩ := hv
  rw [show tx_ 5 = w_multipart from rfl]
  generalize hMu : wd_ w_multipart ((skp 0 V).takeWhile at_) = Mu
  refine jj_istore_n h d_T_readKind_50 (Nat.le_of_ble_eq_true rfl) rfl ?_
  refine jj_aload_n h d_T_readKind_51 rfl ⟨_, rfl⟩ ?_
  refine jj_g_T_scanner h  fl_T_34 d_T_readKind_52 ?_
  refine jj_ldcS h 6 rfl d_T_readKind_55 ?_
  refine jj_callV h (cS_wordIs (i := 6) (by decide) g2.1) cv_T_197 (ro_of he (by first | decide | omega) (by decide)) rfl rfl (by decide) rfl rfl rfl (Nat.le_of_ble_eq_true rfl) d_T_readKind_57 (fun v m57 hv => ?_)
  obtain ⟨rfl, rfl⟩ := hv
  rw [show tx_ 6 = w_message from rfl]
  generalize hMe : wd_ w_message ((skp 0 V).takeWhile at_) = Me
  refine jj_istore h d_T_readKind_60 (Nat.le_of_ble_eq_true rfl) rfl ?_
  refine jj_aload_n h d_T_readKind_62 rfl ⟨_, rfl⟩ ?_
  refine jj_g_T_scanner h  fl_T_34 d_T_readKind_63 ?_
  refine jj_callV h (cS_skipL h4 g2) cv_T_184 (ro_of he (by first | decide | omega) (by decide)) rfl rfl (by decide) rfl rfl rfl (Nat.le_of_ble_eq_true rfl) d_T_readKind_66 (fun v m66 hv => ?_)
  obtain ⟨rfl, g3⟩ := hv
  refine jj_aload_n h d_T_readKind_69 rfl ⟨_, rfl⟩ ?_
  refine jj_g_T_scanner h  fl_T_34 d_T_readKind_70 ?_
  refine jj_bipush h d_T_readKind_73 (by decide) ?_
  refine jj_callV h (cS_takeL ⟨by decide, by decide⟩ h4 g3) cv_T_212 (ro_of he (by first | decide | omega) (by decide)) rfl rfl (by decide) rfl rfl rfl (Nat.le_of_ble_eq_true rfl) d_T_readKind_75 (fun v m75 hv => ?_)
  cases hp2 : tk_ 47 (skp 0 ((skp 0 V).dropWhile at_)) with
  | none =>
    rw [hp2] at hv
    obtain ⟨rfl, g4⟩ := hv
    refine jj_if_ne h 83 d_T_readKind_78 (by decide) ⟨by decide, by decide⟩ (fun z => absurd rfl z) (fun _ => ?_)
    refine jj_iconst h d_T_readKind_81 ?_
    refine jj_zret h he (by omega) d_T_readKind_82 ?_
    exact fin _ _ _ _ _ g4.1 (by unfold kv_; rw [p1]; show (tk_ 47 _).bind _ = none; rw [hp2]; rfl)
  | some l2 =>
  rw [hp2] at hv
  obtain ⟨rfl, g4⟩ := hv
  refine jj_if_ne h 83 d_T_readKind_78 (by decide) ⟨by omega, by omega⟩ (fun _ => ?_) (fun q78 => absurd q78 (by omega))
  refine jj_aload_n h d_T_readKind_83 rfl ⟨_, rfl⟩ ?_
  refine jj_g_T_scanner h  fl_T_34 d_T_readKind_84 ?_
  refine jj_callV h (cS_skipL h4 g4) cv_T_184 (ro_of he (by first | decide | omega) (by decide)) rfl rfl (by decide) rfl rfl rfl (Nat.le_of_ble_eq_true rfl) d_T_readKind_87 (fun v m87 hv => ?_)
  obtain ⟨rfl, g5⟩ := hv
  refine jj_aload_n h d_T_readKind_90 rfl ⟨_, rfl⟩ ?_
  refine jj_g_T_scanner h  fl_T_34 d_T_readKind_91 ?_
  refine jj_callV h (cS_atomL h4 g5) cv_T_187 (ro_of he (by first | decide | omega) (by decide)) rfl rfl (by decide) rfl rfl rfl (Nat.le_of_ble_eq_true rfl) d_T_readKind_94 (fun v m94 hv => ?_)
  obtain ⟨rfl, g6⟩ := hv
  by_cases e2 : (skp 0 l2).takeWhile at_ = []
  · rw [if_pos e2]
    refine jj_if_ne h 102 d_T_readKind_97 (by decide) ⟨by decide, by decide⟩ (fun z => absurd rfl z) (fun _ => ?_)
    refine jj_iconst h d_T_readKind_100 ?_
    refine jj_zret h he (by omega) d_T_readKind_101 ?_
    exact fin _ _ _ _ _ g6.1 (by unfold kv_; rw [p1]; show (tk_ 47 _).bind _ = none; rw [hp2]; show (atm _).map _ = none; rw [show atm (skp 0 l2) = none from if_pos e2]; rfl)
  rw [if_neg e2]
  have p2 : atm (skp 0 l2) = some ((skp 0 l2).takeWhile at_, (skp 0 l2).dropWhile at_) := if_neg e2
  have pk : kv_ V = some ((skp 0 V).takeWhile at_, (skp 0 l2).takeWhile at_, skp 0 ((skp 0 l2).dropWhile at_)) := by
    unfold kv_; rw [p1]; show (tk_ 47 _).bind _ = _; rw [hp2]; show (atm _).map _ = _; rw [p2]; rfl
  have zc : ∀ b : Bool, (if b = true then (1 : Int) else 0) = 0 ∨ (if b = true then (1 : Int) else 0) = 1 := fun b => by cases b <;> simp
  have fin2 : ∀ (m9 : mt_M) (nb : Int) (W : List Int), fS N 0 mem m9 → bw_ m9 4 → SL m9 E ((skp 0 l2).dropWhile at_) nb W m9 → m9 (22 + N) 0 = (if Me = true ∧ wd_ w_rfc822 ((skp 0 l2).takeWhile at_) = true then 2 else 0) → ∀ x4, JJ G X 0 0 m9 124 [some (vr G 17), some (vr G (22 + N)), some (vr G (54 + 8 * N + f)), some (vi (if Mu = true then 1 else 0)), x4] [] := by
    intro m9 nb W q1 q4 q2 q3 x4
    refine jj_aload_n h d_T_readKind_124 rfl ⟨_, rfl⟩ ?_
    refine jj_g_T_scanner h fl_T_34 d_T_readKind_125 ?_
    refine jj_callV h (cS_skipL q4 q2) cv_T_184 (ro_of he (by decide) (by decide)) rfl rfl (by decide) rfl rfl rfl (Nat.le_of_ble_eq_true rfl) d_T_readKind_128 (fun v m128 hv => ?_)
    obtain ⟨rfl, g10⟩ := hv
    refine jj_iload_n h d_T_readKind_131 rfl ?_
    refine jj_zret h he (zc Mu) d_T_readKind_132 ?_
    refine ⟨⟨fun r a b c d => by rw [g10.1.1 r a b c]; exact q1.1 r a b c d, fun z hz => by rw [g10.1.1 (22 + N) (by omega) (by omega) (by omega)]; exact q1.2.1 z hz, g10.1.bw7⟩, ?_⟩
    rw [pk]
    refine ⟨by rw [← hMu], by rw [g10.1.1 (22 + N) (by omega) (by omega) (by omega), q3, ← hMe], E, nb, W, g10.self⟩
  have h4g := g6.1.bw h4
  refine jj_if_ne h 102 d_T_readKind_97 (by decide) ⟨by omega, by omega⟩ (fun _ => ?_) (fun q97 => absurd q97 (by omega))
  refine jj_iload h d_T_readKind_102 rfl ?_
  refine jj_if_eq h 124 d_T_readKind_104 (by decide) ⟨by split <;> omega, by split <;> omega⟩ (fun q104 => ?_) (fun q104 => ?_)
  · have hM0 : Me ≠ true := fun z => by rw [if_pos z] at q104; omega
    exact fin2 _ _ _ g6.1.fS h4g g6.self (by rw [if_neg (fun z => hM0 z.1), g6.1.1 (22 + N) (by omega) (by omega) (by omega)]; exact h0) _
  · have hM0 : Me = true := Decidable.byContradiction fun z => q104 (by rw [if_neg z])
    refine jj_aload_n h d_T_readKind_107 rfl ⟨_, rfl⟩ ?_
    refine jj_g_T_scanner h  fl_T_34 d_T_readKind_108 ?_
    refine jj_ldcS h 7 rfl d_T_readKind_111 ?_
    refine jj_callV h (cS_wordIs (i := 7) (by decide) g6.1) cv_T_197 (ro_of he (by first | decide | omega) (by decide)) rfl rfl (by decide) rfl rfl rfl (Nat.le_of_ble_eq_true rfl) d_T_readKind_113 (fun v m113 hv => ?_)
    obtain ⟨rfl, rfl⟩ := hv
    rw [show tx_ 7 = w_rfc822 from rfl]
    refine jj_if_eq h 124 d_T_readKind_116 (by decide) ⟨by split <;> omega, by split <;> omega⟩ (fun q116 => ?_) (fun q116 => ?_)
    · have e4 : ¬ wd_ w_rfc822 ((skp 0 l2).takeWhile at_) = true := fun z => by rw [if_pos z] at q116; omega
      exact fin2 _ _ _ g6.1.fS h4g g6.self (by rw [if_neg (fun z => e4 z.2), g6.1.1 (22 + N) (by omega) (by omega) (by omega)]; exact h0) _
    · have e4 : wd_ w_rfc822 ((skp 0 l2).takeWhile at_) = true := Decidable.byContradiction fun z => q116 (by rw [if_neg z])
      refine jj_aload_n h d_T_readKind_119 rfl ⟨_, rfl⟩ ?_
      refine jj_iconst h d_T_readKind_120 ?_
      refine jj_p_E_kind h (by omega) fl_T_103 d_T_readKind_121 ?_
      exact fin2 _ _ _ g6.1.fS.put (h4g.mov (st_row (by omega)) (st_row (by omega))) g6.self.ent (by rw [st_same, if_pos ⟨hM0, e4⟩]) _
