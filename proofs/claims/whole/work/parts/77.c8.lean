/-! The class: the scanner skips space. -/
theorem sk_end {o : Nat} {b : Int} {t : List Int} (h : o = 0 ∧ b ≠ 40 ∧ ¬ bl_ b) : skp o (b :: t) = b :: t := by
  cases t with
  | nil => show (if o = 0 ∧ b ≠ 40 ∧ ¬ bl_ b then [b] else []) = [b]; rw [if_pos h]
  | cons c t => exact if_pos h
theorem sk_nil (o : Nat) : skp o [] = [] := by cases o <;> rfl
theorem sk_one {o : Nat} {b : Int} (h : ¬ (o = 0 ∧ b ≠ 40 ∧ ¬ bl_ b)) : skp o [b] = [] := by
  show (if o = 0 ∧ b ≠ 40 ∧ ¬ bl_ b then [b] else []) = []; rw [if_neg h]
theorem sk_two {o : Nat} {b c : Int} {t : List Int} (h : ¬ (o = 0 ∧ b ≠ 40 ∧ ¬ bl_ b)) : skp o (b :: c :: t) = if b = 40 then skp (o + 1) (c :: t) else if b = 41 then skp (o - 1) (c :: t) else if b = 92 then skp o t else skp o (c :: t) := by
  show (if o = 0 ∧ b ≠ 40 ∧ ¬ bl_ b then b :: c :: t else if b = 40 then skp (o + 1) (c :: t) else if b = 41 then skp (o - 1) (c :: t) else if b = 92 then skp o t else skp o (c :: t)) = _
  rw [if_neg h]
theorem sk_open {o : Nat} {t : List Int} : skp o (40 :: t) = skp (o + 1) t := by
  cases t with
  | nil => rw [sk_one (by simp), sk_nil]
  | cons c t => rw [sk_two (by simp), if_pos rfl]
theorem sk_close {o : Nat} {t : List Int} (h : o ≠ 0) : skp o (41 :: t) = skp (o - 1) t := by
  cases t with
  | nil => rw [sk_one (fun z => h z.1), sk_nil]
  | cons c t => rw [sk_two (fun z => h z.1), if_neg (by decide), if_pos rfl]
theorem sk_back {o : Nat} {t : List Int} (h : o ≠ 0) : skp o (92 :: t) = skp o (t.drop 1) := by
  cases t with
  | nil => rw [sk_one (fun z => h z.1)]; exact (sk_nil o).symm
  | cons c t => rw [sk_two (fun z => h z.1), if_neg (by decide), if_neg (by decide), if_pos rfl]; rfl
theorem sk_other {o : Nat} {b : Int} {t : List Int} (h : ¬ (o = 0 ∧ b ≠ 40 ∧ ¬ bl_ b)) (h1 : b ≠ 40) (h2 : b ≠ 41) (h3 : b ≠ 92) : skp o (b :: t) = skp o t := by
  cases t with
  | nil => rw [sk_one h, sk_nil]
  | cons c t => rw [sk_two h, if_neg h1, if_neg h2, if_neg h3]
theorem cS_skipSpace {G : mt_G} {l : Launch} {mem : mt_M} {a b : Int} (hw : bw_ mem 4) (ha : mem 18 2 = a) (hb : mem 18 3 = b) (a0 : 0 ≤ a) (a1 : a ≤ b) (b1 : b ≤ mem 4 1) : CT G l y_S_skipSpace c_S_skipSpace 3 none 2 [vr G 18] mem (fun v m' => v = none ∧ st_ mem 18 2 (b - (skp 0 (slc (mem 12) a b)).length) = m') := by
  have hsz := hw.2.2.1
  have hl9 : ln_ (4 + 8) = 320 := rfl
  refine CT.intro (by decide) rfl (Nat.le_of_ble_eq_true rfl) (fun X h he => ?_)
  generalize hK : skp 0 (slc (mem 12) a b) = K at *
  have loop : ∀ (n : Nat) (p : Int) (o : Nat) (x : Option Value), (b + 1 - p).toNat ≤ n → a ≤ p → p ≤ b + 1 → o ≤ p - a → skp o (slc (mem 12) p b) = K → JJ G X 0 0 (st_ mem 18 2 p) 2 [some (vr G 18), some (vi (o : Int)), x] [] := by
    intro n
    induction n with
    | zero =>
      intro p o x hn hp hp1 ho hk
      have s1 : st_ mem 18 2 p 18 2 = p := st_same
      have s2 : st_ mem 18 2 p 18 3 = b := by rw [st_ne (by decide)]; exact hb
      rw [slc_nil (by omega), sk_nil] at hk
      refine jj_aload_n h d_S_skipSpace_2 rfl ⟨_, rfl⟩ ?_
      refine jj_g_S_place h  fl_S_29 d_S_skipSpace_3 ?_
      try simp only [s1, s2]
      refine jj_aload_n h d_S_skipSpace_6 rfl ⟨_, rfl⟩ ?_
      refine jj_g_S_end h  fl_S_35 d_S_skipSpace_7 ?_
      try simp only [s1, s2]
      refine jj_icmp_ge h 96 d_S_skipSpace_10 (by decide) ⟨by omega, by omega⟩ ⟨by omega, by omega⟩ (fun _ => ?_) (fun q10 => absurd (by omega) q10)
      refine jj_aload_n h d_S_skipSpace_96 rfl ⟨_, rfl⟩ ?_
      refine jj_aload_n h d_S_skipSpace_97 rfl ⟨_, rfl⟩ ?_
      refine jj_g_S_end h  fl_S_35 d_S_skipSpace_98 ?_
      try simp only [s1, s2]
      refine jj_p_S_place h  fl_S_29 d_S_skipSpace_101 ?_
      refine jj_vret h he d_S_skipSpace_104 ?_
      exact ⟨rfl, by rw [← hk, st_st]; show st_ mem 18 2 (b - ((0 : Nat) : Int)) = _; rw [show b - ((0 : Nat) : Int) = b by omega]⟩
    | succ n ih =>
      intro p o x hn hp hp1 ho hk
      have s1 : st_ mem 18 2 p 18 2 = p := st_same
      have s2 : st_ mem 18 2 p 18 3 = b := by rw [st_ne (by decide)]; exact hb
      by_cases hpb : b ≤ p
      · rw [slc_nil (by omega), sk_nil] at hk
        refine jj_aload_n h d_S_skipSpace_2 rfl ⟨_, rfl⟩ ?_
        refine jj_g_S_place h  fl_S_29 d_S_skipSpace_3 ?_
        try simp only [s1, s2]
        refine jj_aload_n h d_S_skipSpace_6 rfl ⟨_, rfl⟩ ?_
        refine jj_g_S_end h  fl_S_35 d_S_skipSpace_7 ?_
        try simp only [s1, s2]
        refine jj_icmp_ge h 96 d_S_skipSpace_10 (by decide) ⟨by omega, by omega⟩ ⟨by omega, by omega⟩ (fun _ => ?_) (fun q10 => absurd (by omega) q10)
        refine jj_aload_n h d_S_skipSpace_96 rfl ⟨_, rfl⟩ ?_
        refine jj_aload_n h d_S_skipSpace_97 rfl ⟨_, rfl⟩ ?_
        refine jj_g_S_end h  fl_S_35 d_S_skipSpace_98 ?_
        try simp only [s1, s2]
        refine jj_p_S_place h  fl_S_29 d_S_skipSpace_101 ?_
        refine jj_vret h he d_S_skipSpace_104 ?_
        exact ⟨rfl, by rw [← hk, st_st]; show st_ mem 18 2 (b - ((0 : Nat) : Int)) = _; rw [show b - ((0 : Nat) : Int) = b by omega]⟩
      have hby : 0 ≤ mem 12 p ∧ mem 12 p ≤ 255 := hw.2.2.2 p (by omega) (by omega)
      have hw2 : bw_ (st_ mem 18 2 p) 4 := hw
      have e4 : st_ mem 18 2 p 4 1 = mem 4 1 := st_ne (by decide)
      have hln : ((slc (mem 12) p b).length : Int) = b - p := slc_lenI (by omega)
      have hcs : slc (mem 12) p b = mem 12 p :: slc (mem 12) (p + 1) b := slc_cons (by omega)
      have hdr : (slc (mem 12) (p + 1) b).drop 1 = slc (mem 12) (p + 2) b := by
        by_cases q : p + 1 < b
        · rw [slc_cons q]; show slc (mem 12) (p + 1 + 1) b = _; rw [show p + 1 + 1 = p + 2 by omega]
        · rw [slc_nil (by omega), slc_nil (by omega)]; rfl
      have nx : ∀ (o' : Nat), o' ≤ p + 1 - a → skp o' (slc (mem 12) (p + 1) b) = K → JJ G X 0 0 (st_ mem 18 2 p) 83 [some (vr G 18), some (vi (o' : Int)), some (vi (mem 12 p))] [] := by
        intro o' ho' hk'
        refine jj_aload_n h d_S_skipSpace_83 rfl ⟨_, rfl⟩ ?_
        refine jj_dup h d_S_skipSpace_84 rfl ?_
        refine jj_g_S_place h  fl_S_29 d_S_skipSpace_85 ?_
        try simp only [s1]
        refine jj_iconst h d_S_skipSpace_88 ?_
        refine jj_iadd h d_S_skipSpace_89 ?_
        refine jj_p_S_place h  fl_S_29 d_S_skipSpace_90 ?_
        refine jj_goto h 2 d_S_skipSpace_93 (by decide) ?_
        rw [st_st]
        exact ih (p + 1) o' _ (by omega) (by omega) (by omega) ho' hk'
      have rest : ¬ (o = 0 ∧ mem 12 p ≠ 40 ∧ ¬ bl_ (mem 12 p)) → JJ G X 0 0 (st_ mem 18 2 p) 43 [some (vr G 18), some (vi (o : Int)), some (vi (mem 12 p))] [] := by
        intro hne
        have ob : (o : Int) ≤ 320 := by omega
        refine jj_iload_n h d_S_skipSpace_43 rfl ?_
        refine jj_bipush h d_S_skipSpace_44 (by decide) ?_
        refine jj_icmp_ne h 55 d_S_skipSpace_46 (by decide) ⟨by omega, by omega⟩ ⟨by omega, by omega⟩ (fun q46 => ?_) (fun q46 => ?_)
        · refine jj_iload_n h d_S_skipSpace_55 rfl ?_
          refine jj_bipush h d_S_skipSpace_56 (by decide) ?_
          refine jj_icmp_ne h 67 d_S_skipSpace_58 (by decide) ⟨by omega, by omega⟩ ⟨by omega, by omega⟩ (fun q58 => ?_) (fun q58 => ?_)
          · refine jj_iload_n h d_S_skipSpace_67 rfl ?_
            refine jj_bipush h d_S_skipSpace_68 (by decide) ?_
            refine jj_icmp_ne h 83 d_S_skipSpace_70 (by decide) ⟨by omega, by omega⟩ ⟨by omega, by omega⟩ (fun q70 => ?_) (fun q70 => ?_)
            · rw [hcs, sk_other hne q46 q58 q70] at hk
              exact nx o (by omega) hk
            · have q70 : mem 12 p = 92 := by omega
              refine jj_aload_n h d_S_skipSpace_73 rfl ⟨_, rfl⟩ ?_
              refine jj_dup h d_S_skipSpace_74 rfl ?_
              refine jj_g_S_place h  fl_S_29 d_S_skipSpace_75 ?_
              try simp only [s1]
              refine jj_iconst h d_S_skipSpace_78 ?_
              refine jj_iadd h d_S_skipSpace_79 ?_
              refine jj_p_S_place h  fl_S_29 d_S_skipSpace_80 ?_
              refine jj_aload_n h d_S_skipSpace_83 rfl ⟨_, rfl⟩ ?_
              refine jj_dup h d_S_skipSpace_84 rfl ?_
              refine jj_g_S_place h  fl_S_29 d_S_skipSpace_85 ?_
              try simp only [s1]
              refine jj_iconst h d_S_skipSpace_88 ?_
              refine jj_iadd h d_S_skipSpace_89 ?_
              refine jj_p_S_place h  fl_S_29 d_S_skipSpace_90 ?_
              refine jj_goto h 2 d_S_skipSpace_93 (by decide) ?_
              have ho0 : o ≠ 0 := fun z => hne ⟨z, by omega, fun y => by rcases y with y | y <;> omega⟩
              rw [hcs, q70, sk_back ho0, hdr] at hk
              have s3 : st_ (st_ mem 18 2 p) 18 2 (p + 1) 18 2 = p + 1 := st_same
              rw [s3, st_st, st_st, show p + 1 + 1 = p + 2 by omega]
              exact ih (p + 2) o _ (by omega) (by omega) (by omega) (by omega) hk
          · have q58 : mem 12 p = 41 := by omega
            refine jj_iinc h d_S_skipSpace_61 rfl rfl ?_
            refine jj_goto h 83 d_S_skipSpace_64 (by decide) ?_
            have ho0 : o ≠ 0 := fun z => hne ⟨z, by omega, fun y => by rcases y with y | y <;> omega⟩
            rw [hcs, q58, sk_close ho0] at hk
            have := nx (o - 1) (by omega) hk
            rw [show ((o - 1 : Nat) : Int) = (o : Int) + -1 by omega] at this
            exact this
        · have q46 : mem 12 p = 40 := by omega
          refine jj_iinc h d_S_skipSpace_49 rfl rfl ?_
          refine jj_goto h 83 d_S_skipSpace_52 (by decide) ?_
          rw [hcs, q46, sk_open] at hk
          exact nx (o + 1) (by omega) hk
      refine jj_aload_n h d_S_skipSpace_2 rfl ⟨_, rfl⟩ ?_
      refine jj_g_S_place h  fl_S_29 d_S_skipSpace_3 ?_
      try simp only [s1, s2]
      refine jj_aload_n h d_S_skipSpace_6 rfl ⟨_, rfl⟩ ?_
      refine jj_g_S_end h  fl_S_35 d_S_skipSpace_7 ?_
      try simp only [s1, s2]
      refine jj_icmp_ge h 96 d_S_skipSpace_10 (by decide) ⟨by omega, by omega⟩ ⟨by omega, by omega⟩ (fun q10 => absurd q10 (by omega)) (fun _ => ?_)
      refine jj_aload_n h d_S_skipSpace_13 rfl ⟨_, rfl⟩ ?_
      refine jj_g_S_values h  fl_S_9 d_S_skipSpace_14 ?_
      try simp only [s1, s2]
      refine jj_aload_n h d_S_skipSpace_17 rfl ⟨_, rfl⟩ ?_
      refine jj_g_S_place h  fl_S_29 d_S_skipSpace_18 ?_
      try simp only [s1, s2]
      refine jj_callV h (cB_in hw2 (by omega) (by rw [e4]; omega)) cv_S_38 (ro_of he (by decide) (by decide)) rfl rfl (by unfold mt_N; omega) (ce_B (by omega)) rfl rfl (Nat.le_of_ble_eq_true rfl) d_S_skipSpace_21 (fun v m21 hv => ?_)
      obtain ⟨rfl, rfl⟩ := hv
      show JJ G X 0 0 (st_ mem 18 2 p) _ _ (vi (mem 12 p) :: _)
      refine jj_istore_n h d_S_skipSpace_24 (Nat.le_of_ble_eq_true rfl) rfl ?_
      refine jj_iload_n h d_S_skipSpace_25 rfl ?_
      refine jj_if_ne h 43 d_S_skipSpace_26 (by decide) ⟨by omega, by omega⟩ (fun q26 => ?_) (fun q26 => ?_)
      · exact rest (fun z => by omega)
      · refine jj_iload_n h d_S_skipSpace_29 rfl ?_
        refine jj_bipush h d_S_skipSpace_30 (by decide) ?_
        refine jj_icmp_eq h 43 d_S_skipSpace_32 (by decide) ⟨by omega, by omega⟩ ⟨by omega, by omega⟩ (fun q32 => ?_) (fun q32 => ?_)
        · exact rest (fun z => by omega)
        · refine jj_iload_n h d_S_skipSpace_35 rfl ?_
          refine jj_callN h (cX_isBlank ⟨by omega, by omega⟩) cv_S_42 (ro_of he (by decide) (by decide)) rfl rfl rfl (Nat.le_of_ble_eq_true rfl) d_S_skipSpace_36 (fun v m36 hv => ?_)
          obtain ⟨rfl, rfl⟩ := hv
          refine jj_if_ne h 43 d_S_skipSpace_39 (by decide) ⟨by split <;> omega, by split <;> omega⟩ (fun q39 => ?_) (fun q39 => ?_)
          · exact rest (fun z => q39 (by rw [if_neg z.2.2]))
          · refine jj_vret h he d_S_skipSpace_42 ?_
            have hbl : ¬ bl_ (mem 12 p) := fun z => by rw [if_pos z] at q39; omega
            rw [hcs, sk_end ⟨by omega, by omega, hbl⟩, ← hcs] at hk
            exact ⟨rfl, by rw [← hk, hln, show b - (b - p) = p by omega]⟩
  have hm : st_ mem 18 2 a = mem := by rw [← ha]; exact st_id
  have start := loop _ a 0 none (Nat.le_refl _) (Int.le_refl _) (by omega) (by omega) hK
  rw [hm] at start
  refine jj_iconst h d_S_skipSpace_0 ?_
  refine jj_istore_n h d_S_skipSpace_1 (Nat.le_of_ble_eq_true rfl) rfl ?_
  exact start
