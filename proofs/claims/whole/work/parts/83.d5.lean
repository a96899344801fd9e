/-! The class: a parameter; can the word be a boundary. -/
theorem tw_dw {L : List Int} (h : L.takeWhile at_ = []) : L.dropWhile at_ = L := by
  have := List.takeWhile_append_dropWhile (p := at_) (l := L)
  rw [h] at this
  exact this
theorem tk34 {L l3 : List Int} (h : tk_ 34 L = some l3) : L.takeWhile at_ = [] := by
  rw [tk_some h]
  exact List.takeWhile_cons_of_neg (by decide)
section SLp
variable {G : mt_G} {l : Launch} {mem m : mt_M} {e nb : Int} {W L : List Int}
def pC (mem : mt_M) (e : Int) (L : List Int) (v : Option Value) (m' : mt_M) : Prop := match par L with
  | none => v = some (vi 0) ∧ ∃ L' nb' W', SL mem e L' nb' W' m'
  | some q => v = some (vi 1) ∧ SL mem e q.2.2 (if q.1 then 1 else 0) q.2.1 m'
theorem pC_no {L' W' : List Int} {nb' : Int} {m' : mt_M} (hp : par L = none) (h : SL mem e L' nb' W' m') : pC mem e L (some (vi 0)) m' := by
  unfold pC; rw [hp]; exact ⟨rfl, _, _, _, h⟩
theorem pC_yes {q : Bool × List Int × List Int} {m' : mt_M} (hp : par L = some q) (h : SL mem e q.2.2 (if q.1 then 1 else 0) q.2.1 m') : pC mem e L (some (vi 1)) m' := by
  unfold pC; rw [hp]; exact ⟨rfl, h⟩
theorem cS_takeParameter (hw : bw_ mem 4) (hs : SL mem e L nb W m) : CT G l y_S_takeParameter c_S_takeParameter 1 (some .boolean) 7 [vr G 18] m (pC mem e L) := by
  refine CT.intro (by decide) rfl (Nat.le_of_ble_eq_true rfl) (fun X h he => ?_)
  have g0 : SL mem e L 0 W (st_ m 18 4 0) := hs.to (hs.1.mark 0)
  have zc : ∀ b : Bool, (if b = true then (1 : Int) else 0) = 0 ∨ (if b = true then (1 : Int) else 0) = 1 := fun b => by cases b <;> simp
  refine jj_aload_n h d_S_takeParameter_0 rfl ⟨_, rfl⟩ ?_
  refine jj_iconst h d_S_takeParameter_1 ?_
  refine jj_p_S_namedBoundary h  fl_S_61 (by omega) d_S_takeParameter_2 ?_
  refine jj_aload_n h d_S_takeParameter_5 rfl ⟨_, rfl⟩ ?_
  refine jj_bipush h d_S_takeParameter_6 (by decide) ?_
  refine jj_callV h (cS_takeL ⟨by decide, by decide⟩ hw g0) cv_S_58 (ro_of he (by first | decide | omega) (by decide)) rfl rfl (by decide) rfl rfl rfl (Nat.le_of_ble_eq_true rfl) d_S_takeParameter_8 (fun v m8 hv => ?_)
  cases hp1 : tk_ 59 L with
  | none =>
    rw [hp1] at hv
    obtain ⟨rfl, g1⟩ := hv
    refine jj_if_ne h 16 d_S_takeParameter_11 (by decide) ⟨by decide, by decide⟩ (fun z => absurd rfl z) (fun _ => ?_)
    refine jj_iconst h d_S_takeParameter_14 ?_
    refine jj_zret h he (by omega) d_S_takeParameter_15 ?_
    exact pC_no (by unfold par; rw [hp1]; rfl) g1
  | some l1 =>
  rw [hp1] at hv
  obtain ⟨rfl, g1⟩ := hv
  refine jj_if_ne h 16 d_S_takeParameter_11 (by decide) ⟨by omega, by omega⟩ (fun _ => ?_) (fun q11 => absurd q11 (by omega))
  refine jj_aload_n h d_S_takeParameter_16 rfl ⟨_, rfl⟩ ?_
  refine jj_callV h (cS_skipL hw g1) cv_S_65 (ro_of he (by first | decide | omega) (by decide)) rfl rfl (by decide) rfl rfl rfl (Nat.le_of_ble_eq_true rfl) d_S_takeParameter_17 (fun v m17 hv => ?_)
  obtain ⟨rfl, g2⟩ := hv
  refine jj_aload_n h d_S_takeParameter_20 rfl ⟨_, rfl⟩ ?_
  refine jj_callV h (cS_atomL hw g2) cv_S_68 (ro_of he (by first | decide | omega) (by decide)) rfl rfl (by decide) rfl rfl rfl (Nat.le_of_ble_eq_true rfl) d_S_takeParameter_21 (fun v m21 hv => ?_)
  obtain ⟨rfl, g3⟩ := hv
  by_cases e1 : (skp 0 l1).takeWhile at_ = []
  · rw [if_pos e1]
    refine jj_if_ne h 29 d_S_takeParameter_24 (by decide) ⟨by decide, by decide⟩ (fun z => absurd rfl z) (fun _ => ?_)
    refine jj_iconst h d_S_takeParameter_27 ?_
    refine jj_zret h he (by omega) d_S_takeParameter_28 ?_
    exact pC_no (by unfold par; rw [hp1]; show (atm (skp 0 l1)).bind _ = none; rw [show atm (skp 0 l1) = none from if_pos e1]; rfl) g3
  rw [if_neg e1]
  have p2 : atm (skp 0 l1) = some ((skp 0 l1).takeWhile at_, (skp 0 l1).dropWhile at_) := if_neg e1
  refine jj_if_ne h 29 d_S_takeParameter_24 (by decide) ⟨by omega, by omega⟩ (fun _ => ?_) (fun q24 => absurd q24 (by omega))
  refine jj_aload_n h d_S_takeParameter_29 rfl ⟨_, rfl⟩ ?_
  refine jj_aload_n h d_S_takeParameter_30 rfl ⟨_, rfl⟩ ?_
  refine jj_ldcS h 8 rfl d_S_takeParameter_31 ?_
  refine jj_callV h (cS_wordIs (i := 8) (by decide) g3.1) cv_S_74 (ro_of he (by first | decide | omega) (by decide)) rfl rfl (by decide) rfl rfl rfl (Nat.le_of_ble_eq_true rfl) d_S_takeParameter_33 (fun v m33 hv => ?_)
  obtain ⟨rfl, rfl⟩ := hv
  rw [show tx_ 8 = w_boundary from rfl]
  generalize hB : wd_ w_boundary ((skp 0 l1).takeWhile at_) = B
  have g4 := g3.to (g3.1.mark (if B = true then 1 else 0))
  refine jj_p_S_namedBoundary h  fl_S_61 (zc B) d_S_takeParameter_36 ?_
  refine jj_aload_n h d_S_takeParameter_39 rfl ⟨_, rfl⟩ ?_
  refine jj_callV h (cS_skipL hw g4) cv_S_65 (ro_of he (by first | decide | omega) (by decide)) rfl rfl (by decide) rfl rfl rfl (Nat.le_of_ble_eq_true rfl) d_S_takeParameter_40 (fun v m40 hv => ?_)
  obtain ⟨rfl, g5⟩ := hv
  refine jj_aload_n h d_S_takeParameter_43 rfl ⟨_, rfl⟩ ?_
  refine jj_bipush h d_S_takeParameter_44 (by decide) ?_
  refine jj_callV h (cS_takeL ⟨by decide, by decide⟩ hw g5) cv_S_58 (ro_of he (by first | decide | omega) (by decide)) rfl rfl (by decide) rfl rfl rfl (Nat.le_of_ble_eq_true rfl) d_S_takeParameter_46 (fun v m46 hv => ?_)
  cases hp3 : tk_ 61 (skp 0 ((skp 0 l1).dropWhile at_)) with
  | none =>
    rw [hp3] at hv
    obtain ⟨rfl, g6⟩ := hv
    refine jj_if_ne h 54 d_S_takeParameter_49 (by decide) ⟨by decide, by decide⟩ (fun z => absurd rfl z) (fun _ => ?_)
    refine jj_iconst h d_S_takeParameter_52 ?_
    refine jj_zret h he (by omega) d_S_takeParameter_53 ?_
    exact pC_no (by unfold par; rw [hp1]; show (atm (skp 0 l1)).bind _ = none; rw [p2]; show (tk_ 61 _).bind _ = none; rw [hp3]; rfl) g6
  | some l2 =>
  rw [hp3] at hv
  obtain ⟨rfl, g6⟩ := hv
  have pp : par L = (match tk_ 34 (skp 0 l2) with | some l3 => qtd l3 | none => atm (skp 0 l2)).map fun (w : List Int × List Int) => (B, w.1, skp 0 w.2) := by
    unfold par; rw [hp1]; show (atm (skp 0 l1)).bind _ = _; rw [p2]; show (tk_ 61 _).bind _ = _; rw [hp3]; rw [← hB]; rfl
  have fin : ∀ (m9 : mt_M) (q : List Int × List Int), par L = some (B, q.1, skp 0 q.2) → SL mem e q.2 (if B = true then 1 else 0) q.1 m9 → JJ G X 0 0 m9 74 [some (vr G 18)] [] := by
    intro m9 q hq g9
    refine jj_aload_n h d_S_takeParameter_74 rfl ⟨_, rfl⟩ ?_
    refine jj_callV h (cS_skipL hw g9) cv_S_65 (ro_of he (by decide) (by decide)) rfl rfl (by decide) rfl rfl rfl (Nat.le_of_ble_eq_true rfl) d_S_takeParameter_75 (fun v m75 hv => ?_)
    obtain ⟨rfl, g10⟩ := hv
    refine jj_iconst h d_S_takeParameter_78 ?_
    refine jj_zret h he (by omega) d_S_takeParameter_79 ?_
    exact pC_yes hq g10
  refine jj_if_ne h 54 d_S_takeParameter_49 (by decide) ⟨by omega, by omega⟩ (fun _ => ?_) (fun q49 => absurd q49 (by omega))
  refine jj_aload_n h d_S_takeParameter_54 rfl ⟨_, rfl⟩ ?_
  refine jj_callV h (cS_skipL hw g6) cv_S_65 (ro_of he (by first | decide | omega) (by decide)) rfl rfl (by decide) rfl rfl rfl (Nat.le_of_ble_eq_true rfl) d_S_takeParameter_55 (fun v m55 hv => ?_)
  obtain ⟨rfl, g7⟩ := hv
  refine jj_aload_n h d_S_takeParameter_58 rfl ⟨_, rfl⟩ ?_
  refine jj_callV h (cS_atomL hw g7) cv_S_68 (ro_of he (by first | decide | omega) (by decide)) rfl rfl (by decide) rfl rfl rfl (Nat.le_of_ble_eq_true rfl) d_S_takeParameter_59 (fun v m59 hv => ?_)
  obtain ⟨rfl, g8⟩ := hv
  refine jj_if_ne h 74 d_S_takeParameter_62 (by decide) ⟨by split <;> omega, by split <;> omega⟩ (fun q62 => ?_) (fun q62 => ?_)
  · have e3 : ¬ (skp 0 l2).takeWhile at_ = [] := fun z => q62 (by rw [if_pos z])
    refine fin _ (_, _) ?_ g8
    rw [pp]
    cases hk : tk_ 34 (skp 0 l2) with
    | none => show (atm (skp 0 l2)).map _ = _; rw [show atm (skp 0 l2) = some ((skp 0 l2).takeWhile at_, (skp 0 l2).dropWhile at_) from if_neg e3]; rfl
    | some l3 => exact absurd (tk34 hk) e3
  · have e3 : (skp 0 l2).takeWhile at_ = [] := Decidable.byContradiction fun z => by rw [if_neg z] at q62; omega
    rw [tw_dw e3] at g8
    refine jj_aload_n h d_S_takeParameter_65 rfl ⟨_, rfl⟩ ?_
    refine jj_callV h (cS_quotedL hw g8) cv_S_78 (ro_of he (by first | decide | omega) (by decide)) rfl rfl (by decide) rfl rfl rfl (Nat.le_of_ble_eq_true rfl) d_S_takeParameter_66 (fun v m66 hv => ?_)
    cases hq : (tk_ 34 (skp 0 l2)).bind qtd with
    | none =>
      rw [hq] at hv
      obtain ⟨rfl, L', W', g9⟩ := hv
      refine jj_if_ne h 74 d_S_takeParameter_69 (by decide) ⟨by decide, by decide⟩ (fun z => absurd rfl z) (fun _ => ?_)
      refine jj_iconst h d_S_takeParameter_72 ?_
      refine jj_zret h he (by omega) d_S_takeParameter_73 ?_
      refine pC_no ?_ g9
      rw [pp]
      cases hk : tk_ 34 (skp 0 l2) with
      | none => show (atm (skp 0 l2)).map _ = none; rw [show atm (skp 0 l2) = none from if_pos e3]; rfl
      | some l3 => rw [hk] at hq; show (qtd l3).map _ = none; rw [show qtd l3 = none from hq]; rfl
    | some q =>
    rw [hq] at hv
    obtain ⟨rfl, g9⟩ := hv
    refine jj_if_ne h 74 d_S_takeParameter_69 (by decide) ⟨by omega, by omega⟩ (fun _ => ?_) (fun q69 => absurd q69 (by omega))
    refine fin _ q ?_ g9
    rw [pp]
    cases hk : tk_ 34 (skp 0 l2) with
    | none => rw [hk] at hq; cases hq
    | some l3 => rw [hk] at hq; show (qtd l3).map _ = _; rw [show qtd l3 = some q from hq]; rfl
theorem bd_f {f : Int → Int} {N : Nat} (hW : slc f 0 N = W) (hN : W.length = N) : bd_ W = true ↔ (1 ≤ N ∧ N ≤ 20) ∧ (∀ j : Int, 0 ≤ j → j < N → 32 ≤ f j ∧ f j ≤ 126) ∧ f ((N : Int) - 1) ≠ 32 := by
  have hg : ∀ j : Int, 0 ≤ j → j < N → W[j.toNat]? = some (f j) := fun j j0 j1 => by
    have := slc_get (f := f) (p := 0) (e := N) j0 (by omega)
    rw [hW, Int.zero_add] at this
    exact this
  have hlast : 1 ≤ N → W.getLast? = some (f ((N : Int) - 1)) := fun k => by
    rw [List.getLast?_eq_getElem?, hN, ← hg ((N : Int) - 1) (by omega) (by omega)]
    congr 1
    omega
  have hm : ∀ c ∈ W, ∃ j : Int, 0 ≤ j ∧ j < N ∧ f j = c := fun c hc => by
    obtain ⟨i, hi, rfl⟩ := List.getElem_of_mem hc
    refine ⟨i, by omega, by omega, ?_⟩
    have := hg i (by omega) (by omega)
    rw [show ((i : Int)).toNat = i from rfl, List.getElem?_eq_getElem hi] at this
    exact (Option.some.inj this).symm
  constructor
  · intro z
    have z1 := of_decide_eq_true z
    rw [hN] at z1
    refine ⟨⟨z1.1, z1.2.1⟩, fun j j0 j1 => z1.2.2.1 _ (List.mem_of_getElem? (hg j j0 j1)), fun y => z1.2.2.2 (by rw [hlast z1.1, y])⟩
  · rintro ⟨⟨a1, a2⟩, a3, a4⟩
    refine decide_eq_true ⟨by omega, by omega, fun c hc => ?_, fun y => a4 ?_⟩
    · obtain ⟨j, j0, j1, rfl⟩ := hm c hc
      exact a3 j j0 j1
    · rw [hlast a1] at y
      exact Option.some.inj y
theorem cS_canBe {p : Int} (hs : SR mem e p nb W m) : CT G l y_S_wordCanBeBoundary c_S_wordCanBeBoundary 2 (some .boolean) 2 [vr G 18] m (fun v m' => v = some (vi (if bd_ W then 1 else 0)) ∧ m = m') := by
  have h5 := hs.2.2.2.2.1
  have h6 : slc (m 15) 0 W.length = W := hs.2.2.2.2.2.1
  have h7 := hs.2.2.2.2.2.2.1
  have hw7 := hs.bw7
  have hb := bd_f h6 rfl
  have h5' : m 7 1 = W.length := h5
  generalize hN : W.length = N at *
  refine CT.intro (by decide) rfl (Nat.le_of_ble_eq_true rfl) (fun X h he => ?_)
  have no : ¬ bd_ W = true → (some (vi 0) : Option Value) = some (vi (if bd_ W then 1 else 0)) := fun z => by rw [if_neg z]
  have loop : ∀ (n : Nat) (i : Int), ((N : Int) - i).toNat = n → 0 ≤ i → i ≤ N → (1 ≤ N ∧ N ≤ 20) → m 15 ((N : Int) - 1) ≠ 32 → (∀ j : Int, 0 ≤ j → j < i → 32 ≤ m 15 j ∧ m 15 j ≤ 126) → JJ G X 0 0 m 49 [some (vr G 18), some (vi i)] [] := by
    intro n
    induction n with
    | zero =>
      intro i k1 k2 k3 k4 k5 k6
      have hi : i = N := by omega
      subst hi
      refine jj_iload_n h d_S_wordCanBeBoundary_49 rfl ?_
      refine jj_aload_n h d_S_wordCanBeBoundary_50 rfl ⟨_, rfl⟩ ?_
      refine jj_g_S_word h  fl_S_20 d_S_wordCanBeBoundary_51 ?_
      try simp only [h5]
      refine jj_g_B_size h (by omega) fl_S_55 d_S_wordCanBeBoundary_54 ?_
      try simp only [h5]
      refine jj_icmp_ge h 94 d_S_wordCanBeBoundary_57 (by decide) ⟨by omega, by omega⟩ ⟨by omega, by omega⟩ (fun _ => ?_) (fun q57 => absurd (by omega) q57)
      refine jj_iconst h d_S_wordCanBeBoundary_94 ?_
      refine jj_zret h he (by omega) d_S_wordCanBeBoundary_95 ?_
      exact ⟨by rw [if_pos (hb.mpr ⟨k4, k6, k5⟩)], rfl⟩
    | succ n ih =>
      intro i k1 k2 k3 k4 k5 k6
      have hby : 0 ≤ m 15 i ∧ m 15 i ≤ 255 := hw7.2.2.2 i k2 (by rw [h5]; omega)
      refine jj_iload_n h d_S_wordCanBeBoundary_49 rfl ?_
      refine jj_aload_n h d_S_wordCanBeBoundary_50 rfl ⟨_, rfl⟩ ?_
      refine jj_g_S_word h  fl_S_20 d_S_wordCanBeBoundary_51 ?_
      try simp only [h5]
      refine jj_g_B_size h (by omega) fl_S_55 d_S_wordCanBeBoundary_54 ?_
      try simp only [h5]
      refine jj_icmp_ge h 94 d_S_wordCanBeBoundary_57 (by decide) ⟨by omega, by omega⟩ ⟨by omega, by omega⟩ (fun q57 => absurd q57 (by omega)) (fun _ => ?_)
      refine jj_aload_n h d_S_wordCanBeBoundary_60 rfl ⟨_, rfl⟩ ?_
      refine jj_g_S_word h  fl_S_20 d_S_wordCanBeBoundary_61 ?_
      try simp only [h5]
      refine jj_iload_n h d_S_wordCanBeBoundary_64 rfl ?_
      refine jj_callV h (cB_in hw7 k2 (by rw [h5]; omega)) cv_S_38 (ro_of he (by first | decide | omega) (by decide)) rfl rfl (by unfold mt_N; omega) (ce_B (by omega)) rfl rfl (Nat.le_of_ble_eq_true rfl) d_S_wordCanBeBoundary_65 (fun v m65 hv => ?_)
      obtain ⟨rfl, rfl⟩ := hv
      show JJ G X 0 0 m _ _ (vi (m 15 i) :: _)
      refine jj_bipush h d_S_wordCanBeBoundary_68 (by decide) ?_
      refine jj_icmp_lt h 86 d_S_wordCanBeBoundary_70 (by decide) ⟨by omega, by omega⟩ ⟨by omega, by omega⟩ (fun q70 => ?_) (fun q70 => ?_)
      · refine jj_iconst h d_S_wordCanBeBoundary_86 ?_
        refine jj_zret h he (by omega) d_S_wordCanBeBoundary_87 ?_
        exact ⟨no (fun z => by have := (hb.mp z).2.1 i k2 (by omega); omega), rfl⟩
      · refine jj_aload_n h d_S_wordCanBeBoundary_73 rfl ⟨_, rfl⟩ ?_
        refine jj_g_S_word h  fl_S_20 d_S_wordCanBeBoundary_74 ?_
        try simp only [h5]
        refine jj_iload_n h d_S_wordCanBeBoundary_77 rfl ?_
        refine jj_callV h (cB_in hw7 k2 (by rw [h5]; omega)) cv_S_38 (ro_of he (by first | decide | omega) (by decide)) rfl rfl (by unfold mt_N; omega) (ce_B (by omega)) rfl rfl (Nat.le_of_ble_eq_true rfl) d_S_wordCanBeBoundary_78 (fun v m78 hv => ?_)
        obtain ⟨rfl, rfl⟩ := hv
        show JJ G X 0 0 m _ _ (vi (m 15 i) :: _)
        refine jj_bipush h d_S_wordCanBeBoundary_81 (by decide) ?_
        refine jj_icmp_le h 88 d_S_wordCanBeBoundary_83 (by decide) ⟨by omega, by omega⟩ ⟨by omega, by omega⟩ (fun q83 => ?_) (fun q83 => ?_)
        · refine jj_iinc h d_S_wordCanBeBoundary_88 rfl rfl ?_
          refine jj_goto h 49 d_S_wordCanBeBoundary_91 (by decide) ?_
          exact ih (i + 1) (by omega) (by omega) (by omega) k4 k5 (fun j j0 j1 => by
            by_cases hj : j = i
            · rw [hj]; omega
            · exact k6 j j0 (by omega))
        · refine jj_iconst h d_S_wordCanBeBoundary_86 ?_
          refine jj_zret h he (by omega) d_S_wordCanBeBoundary_87 ?_
          exact ⟨no (fun z => by have := (hb.mp z).2.1 i k2 (by omega); omega), rfl⟩
  refine jj_aload_n h d_S_wordCanBeBoundary_0 rfl ⟨_, rfl⟩ ?_
  refine jj_g_S_word h  fl_S_20 d_S_wordCanBeBoundary_1 ?_
  try simp only [h5]
  refine jj_g_B_size h (by omega) fl_S_55 d_S_wordCanBeBoundary_4 ?_
  try simp only [h5]
  refine jj_iconst h d_S_wordCanBeBoundary_7 ?_
  refine jj_icmp_lt h 45 d_S_wordCanBeBoundary_8 (by decide) ⟨by omega, by omega⟩ ⟨by omega, by omega⟩ (fun q8 => ?_) (fun q8 => ?_)
  · refine jj_iconst h d_S_wordCanBeBoundary_45 ?_
    refine jj_zret h he (by omega) d_S_wordCanBeBoundary_46 ?_
    exact ⟨no (fun z => by have := (hb.mp z).1; omega), rfl⟩
  · refine jj_aload_n h d_S_wordCanBeBoundary_11 rfl ⟨_, rfl⟩ ?_
    refine jj_g_S_word h  fl_S_20 d_S_wordCanBeBoundary_12 ?_
    try simp only [h5]
    refine jj_g_B_size h (by omega) fl_S_55 d_S_wordCanBeBoundary_15 ?_
    try simp only [h5]
    refine jj_bipush h d_S_wordCanBeBoundary_18 (by decide) ?_
    refine jj_icmp_gt h 45 d_S_wordCanBeBoundary_20 (by decide) ⟨by omega, by omega⟩ ⟨by omega, by omega⟩ (fun q20 => ?_) (fun q20 => ?_)
    · refine jj_iconst h d_S_wordCanBeBoundary_45 ?_
      refine jj_zret h he (by omega) d_S_wordCanBeBoundary_46 ?_
      exact ⟨no (fun z => by have := (hb.mp z).1; omega), rfl⟩
    · refine jj_aload_n h d_S_wordCanBeBoundary_23 rfl ⟨_, rfl⟩ ?_
      refine jj_g_S_word h  fl_S_20 d_S_wordCanBeBoundary_24 ?_
      try simp only [h5]
      refine jj_aload_n h d_S_wordCanBeBoundary_27 rfl ⟨_, rfl⟩ ?_
      refine jj_g_S_word h  fl_S_20 d_S_wordCanBeBoundary_28 ?_
      try simp only [h5]
      refine jj_g_B_size h (by omega) fl_S_55 d_S_wordCanBeBoundary_31 ?_
      try simp only [h5]
      refine jj_iconst h d_S_wordCanBeBoundary_34 ?_
      refine jj_isub h d_S_wordCanBeBoundary_35 ?_
      refine jj_callV h (cB_in hw7 (by omega) (by rw [h5]; omega)) cv_S_38 (ro_of he (by first | decide | omega) (by decide)) rfl rfl (by unfold mt_N; omega) (ce_B (by omega)) rfl rfl (Nat.le_of_ble_eq_true rfl) d_S_wordCanBeBoundary_36 (fun v m36 hv => ?_)
      obtain ⟨rfl, rfl⟩ := hv
      show JJ G X 0 0 m _ _ (vi (m 15 ((N : Int) - 1)) :: _)
      have hby : 0 ≤ m 15 ((N : Int) - 1) ∧ m 15 ((N : Int) - 1) ≤ 255 := hw7.2.2.2 _ (by omega) (by rw [h5]; omega)
      refine jj_callN h (cX_isBlank ⟨by omega, by omega⟩) cv_S_42 (ro_of he (by first | decide | omega) (by decide)) rfl rfl rfl (Nat.le_of_ble_eq_true rfl) d_S_wordCanBeBoundary_39 (fun v m39 hv => ?_)
      obtain ⟨rfl, rfl⟩ := hv
      refine jj_if_eq h 47 d_S_wordCanBeBoundary_42 (by decide) ⟨by split <;> omega, by split <;> omega⟩ (fun q42 => ?_) (fun q42 => ?_)
      · have q42 : ¬ bl_ (m 15 ((N : Int) - 1)) := fun z => by rw [if_pos z] at q42; omega
        refine jj_iconst h d_S_wordCanBeBoundary_47 ?_
        refine jj_istore_n h d_S_wordCanBeBoundary_48 (Nat.le_of_ble_eq_true rfl) rfl ?_
        exact loop _ 0 rfl (by omega) (by omega) (by omega) (fun z => q42 (Or.inl z)) (fun j j0 j1 => by omega)
      · have q42 : bl_ (m 15 ((N : Int) - 1)) := Decidable.byContradiction fun z => q42 (by rw [if_neg z])
        refine jj_iconst h d_S_wordCanBeBoundary_45 ?_
        refine jj_zret h he (by omega) d_S_wordCanBeBoundary_46 ?_
        exact ⟨no (fun z => by
          have z1 := hb.mp z
          have := z1.2.1 ((N : Int) - 1) (by omega) (by omega)
          rcases q42 with y | y
          · exact z1.2.2 y
          · omega), rfl⟩
end SLp
