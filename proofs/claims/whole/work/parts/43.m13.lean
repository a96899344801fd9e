/-! The reference: contents of a leaf; trimming. -/
/-- out of its encoding -/
def dec_ (en : Int) (L : List Int) : List Int := if en = 1 then b64d L else if en = 2 then qp_ L else L
theorem cM_contents {G : mt_G} {l : Launch} {mem : mt_M} {e b s en : Int} (h0 : 0 ≤ e) (h1 : e < 16) (hd8 : mem 185 (16 * e + 8) = b) (hd9 : mem 185 (16 * e + 9) = s) (hd4 : mem 185 (16 * e + 4) = en) (hen : r32 en) (hb0 : 0 ≤ b) (hb1 : b ≤ s) (hs2 : s ≤ 320) (hb : by_ (mem 184) b s) (hT : 0 ≤ mem 182 9) (hro : mem 182 9 + (s - b) ≤ 1400) : CT G l y_M_contents c_M_contents 5 none 4 [vr G 182, vi e] mem (fun v m' => v = none ∧ ∃ m : mt_M, ap_ (st_ mem 185 (16 * e + 10) (mem 182 9)) (dec_ en (slc (mem 184) b s)) m ∧ m 182 9 ≤ mem 182 9 + (s - b) ∧ m' = st_ m 185 (16 * e + 5) ((dec_ en (slc (mem 184) b s)).length)) := by
  refine CT.intro (by decide) rfl (Nat.le_of_ble_eq_true rfl) (fun X h he => ?_)
  generalize hm0 : st_ mem 185 (16 * e + 10) (mem 182 9) = m0 at *
  have a8 : m0 185 (16 * e + 8) = b := by rw [← hm0, st_ne (by omega)]; exact hd8
  have a9 : m0 185 (16 * e + 9) = s := by rw [← hm0, st_ne (by omega)]; exact hd9
  have a4 : m0 185 (16 * e + 4) = en := by rw [← hm0, st_ne (by omega)]; exact hd4
  have a10 : m0 185 (16 * e + 10) = mem 182 9 := by rw [← hm0, st_same]
  have aT : m0 182 9 = mem 182 9 := by rw [← hm0, st_ne (by omega)]
  have aS : m0 184 = mem 184 := by rw [← hm0, st_row (by decide)]
  have hb0' : by_ (m0 184) b s := by rw [aS]; exact hb
  have fin : ∀ (m : mt_M) (D : List Int) (x : Option Value), ap_ m0 D m → D = dec_ en (slc (mem 184) b s) → m 182 9 ≤ mem 182 9 + (s - b) → JJ G X 0 0 m 91 [some (vr G 182), some (vi e), some (vi b), some (vi s), x] [] := by
    intro m D x hm hD hl
    have hm1 := hm.1
    have hm2 : m 185 (16 * e + 10) = mem 182 9 := by rw [hm.row (by decide) (by decide)]; exact a10
    refine jj_aload_n h d_M_contents_91 rfl ⟨_, rfl⟩ ?_
    refine jj_iload_n h d_M_contents_92 rfl ?_
    refine jj_iconst h d_M_contents_93 ?_
    refine jj_aload_n h d_M_contents_94 rfl ⟨_, rfl⟩ ?_
    refine jj_g_M_textSize h  fl_M_56 d_M_contents_95 ?_
    refine jj_aload_n h d_M_contents_98 rfl ⟨_, rfl⟩ ?_
    refine jj_iload_n h d_M_contents_99 rfl ?_
    refine jj_bipush h d_M_contents_100 (by decide) ?_
    refine jj_callV h (cM_of (by omega) (by omega)) cv_M_59 (ro_of he (by decide) (by decide)) rfl rfl (by decide) rfl rfl rfl (Nat.le_of_ble_eq_true rfl) d_M_contents_102 (fun v m102 hv => ?_)
    obtain ⟨rfl, rfl⟩ := hv
    rw [hm2]
    refine jj_isub h d_M_contents_105 ?_
    rw [show m 182 9 - mem 182 9 = D.length by omega]
    refine jj_callV h (cM_set (by omega) (by omega)) cv_M_70 (ro_of he (by decide) (by decide)) rfl rfl (by decide) rfl rfl rfl (Nat.le_of_ble_eq_true rfl) d_M_contents_106 (fun v m106 hv => ?_)
    obtain ⟨rfl, rfl⟩ := hv
    refine jj_vret h he d_M_contents_109 ?_
    exact ⟨rfl, m, by rw [← hD]; exact hm, hl, by rw [hD]⟩
  have loop : ∀ (n : Nat) (q : Int) (m : mt_M), (s - q).toNat = n → b ≤ q → q ≤ s → ap_ m0 (slc (mem 184) b q) m → slc (mem 184) b s = dec_ en (slc (mem 184) b s) → JJ G X 0 0 m 68 [some (vr G 182), some (vi e), some (vi b), some (vi s), some (vi q)] [] := by
    intro n
    induction n with
    | zero =>
      intro q m hn hq hq1 ha hd
      have hqs : q = s := by omega
      subst hqs
      refine jj_iload h d_M_contents_68 rfl ?_
      refine jj_iload_n h d_M_contents_70 rfl ?_
      refine jj_icmp_ge h 91 d_M_contents_71 (by decide) ⟨by omega, by omega⟩ ⟨by omega, by omega⟩ (fun _ => ?_) (fun q71 => absurd (by omega) q71)
      exact fin m _ _ ha hd (by rw [ha.1, slc_len]; omega)
    | succ n ih =>
      intro q m hn hq hq1 ha hd
      have hq3 := hb q hq (by omega)
      have ha1 := ha.1
      rw [slc_len] at ha1
      have hs : m 184 = mem 184 := (ha.row (by decide) (by decide)).trans aS
      refine jj_iload h d_M_contents_68 rfl ?_
      refine jj_iload_n h d_M_contents_70 rfl ?_
      refine jj_icmp_ge h 91 d_M_contents_71 (by decide) ⟨by omega, by omega⟩ ⟨by omega, by omega⟩ (fun q71 => absurd q71 (by omega)) (fun _ => ?_)
      refine jj_aload_n h d_M_contents_74 rfl ⟨_, rfl⟩ ?_
      refine jj_aload_n h d_M_contents_75 rfl ⟨_, rfl⟩ ?_
      refine jj_g_M_src h  fl_M_13 d_M_contents_76 ?_
      try simp only [hs]
      refine jj_iload h d_M_contents_79 rfl ?_
      refine jj_iaload (N := 320) h (by decide) rfl (by decide) (by omega) (by omega) d_M_contents_81 ?_
      try simp only [hs]
      refine jj_callV h (cM_keep (by omega) (by omega)) cv_M_66 (ro_of he (by decide) (by decide)) rfl rfl (by decide) rfl rfl rfl (Nat.le_of_ble_eq_true rfl) d_M_contents_82 (fun v m82 hv => ?_)
      obtain ⟨rfl, rfl⟩ := hv
      refine jj_iinc h d_M_contents_85 rfl rfl ?_
      refine jj_goto h 68 d_M_contents_88 (by decide) ?_
      exact ih (q + 1) _ (by omega) (by omega) (by omega) (by rw [slc_snoc hq]; exact ha.k1 _) hd
  refine jj_aload_n h d_M_contents_0 rfl ⟨_, rfl⟩ ?_
  refine jj_iload_n h d_M_contents_1 rfl ?_
  refine jj_bipush h d_M_contents_2 (by decide) ?_
  refine jj_aload_n h d_M_contents_4 rfl ⟨_, rfl⟩ ?_
  refine jj_g_M_textSize h  fl_M_56 d_M_contents_5 ?_
  refine jj_callV h (cM_set (by omega) (by omega)) cv_M_70 (ro_of he (by decide) (by decide)) rfl rfl (by decide) rfl rfl rfl (Nat.le_of_ble_eq_true rfl) d_M_contents_8 (fun v m8 hv => ?_)
  obtain ⟨rfl, rfl⟩ := hv
  rw [hm0]
  refine jj_aload_n h d_M_contents_11 rfl ⟨_, rfl⟩ ?_
  refine jj_iload_n h d_M_contents_12 rfl ?_
  refine jj_bipush h d_M_contents_13 (by decide) ?_
  refine jj_callV h (cM_of (by omega) (by omega)) cv_M_59 (ro_of he (by decide) (by decide)) rfl rfl (by decide) rfl rfl rfl (Nat.le_of_ble_eq_true rfl) d_M_contents_15 (fun v m15 hv => ?_)
  obtain ⟨rfl, rfl⟩ := hv
  rw [a8]
  refine jj_istore_n h d_M_contents_18 (Nat.le_of_ble_eq_true rfl) rfl ?_
  refine jj_aload_n h d_M_contents_19 rfl ⟨_, rfl⟩ ?_
  refine jj_iload_n h d_M_contents_20 rfl ?_
  refine jj_bipush h d_M_contents_21 (by decide) ?_
  refine jj_callV h (cM_of (by omega) (by omega)) cv_M_59 (ro_of he (by decide) (by decide)) rfl rfl (by decide) rfl rfl rfl (Nat.le_of_ble_eq_true rfl) d_M_contents_23 (fun v m23 hv => ?_)
  obtain ⟨rfl, rfl⟩ := hv
  rw [a9]
  refine jj_istore_n h d_M_contents_26 (Nat.le_of_ble_eq_true rfl) rfl ?_
  refine jj_aload_n h d_M_contents_27 rfl ⟨_, rfl⟩ ?_
  refine jj_iload_n h d_M_contents_28 rfl ?_
  refine jj_iconst h d_M_contents_29 ?_
  refine jj_callV h (cM_of (by omega) (by omega)) cv_M_59 (ro_of he (by decide) (by decide)) rfl rfl (by decide) rfl rfl rfl (Nat.le_of_ble_eq_true rfl) d_M_contents_30 (fun v m30 hv => ?_)
  obtain ⟨rfl, rfl⟩ := hv
  rw [a4]
  refine jj_iconst h d_M_contents_33 ?_
  refine jj_icmp_ne h 46 d_M_contents_34 (by decide) hen ⟨by decide, by decide⟩ (fun q34 => ?_) (fun q34 => ?_)
  · refine jj_aload_n h d_M_contents_46 rfl ⟨_, rfl⟩ ?_
    refine jj_iload_n h d_M_contents_47 rfl ?_
    refine jj_iconst h d_M_contents_48 ?_
    refine jj_callV h (cM_of (by omega) (by omega)) cv_M_59 (ro_of he (by decide) (by decide)) rfl rfl (by decide) rfl rfl rfl (Nat.le_of_ble_eq_true rfl) d_M_contents_49 (fun v m49 hv => ?_)
    obtain ⟨rfl, rfl⟩ := hv
    rw [a4]
    refine jj_iconst h d_M_contents_52 ?_
    refine jj_icmp_ne h 65 d_M_contents_53 (by decide) hen ⟨by decide, by decide⟩ (fun q53 => ?_) (fun q53 => ?_)
    · refine jj_iload_n h d_M_contents_65 rfl ?_
      refine jj_istore h d_M_contents_66 (Nat.le_of_ble_eq_true rfl) rfl ?_
      exact loop _ b m0 rfl (by omega) hb1 (by rw [slc_nil (Int.le_refl _)]; exact ap_.rf) (by unfold dec_; rw [if_neg q34, if_neg q53])
    · refine jj_aload_n h d_M_contents_56 rfl ⟨_, rfl⟩ ?_
      refine jj_iload_n h d_M_contents_57 rfl ?_
      refine jj_iload_n h d_M_contents_58 rfl ?_
      refine jj_callV h (cM_fromQuoted hb0 hb1 hs2 hb0' (by omega) (by omega)) cv_M_193 (ro_of he (by decide) (by decide)) rfl rfl (by decide) rfl rfl rfl (Nat.le_of_ble_eq_true rfl) d_M_contents_59 (fun v m59 hv => ?_)
      obtain ⟨rfl, ha, hl⟩ := hv
      refine jj_goto h 91 d_M_contents_62 (by decide) ?_
      exact fin m59 _ _ ha (by rw [aS]; unfold dec_; rw [if_neg q34, if_pos q53]) (by omega)
  · refine jj_aload_n h d_M_contents_37 rfl ⟨_, rfl⟩ ?_
    refine jj_iload_n h d_M_contents_38 rfl ?_
    refine jj_iload_n h d_M_contents_39 rfl ?_
    refine jj_callV h (cM_fromLetters hb0 hb1 hs2 hb0' (by omega) (by omega)) cv_M_190 (ro_of he (by decide) (by decide)) rfl rfl (by decide) rfl rfl rfl (Nat.le_of_ble_eq_true rfl) d_M_contents_40 (fun v m40 hv => ?_)
    obtain ⟨rfl, ha, hl⟩ := hv
    refine jj_goto h 91 d_M_contents_43 (by decide) ?_
    exact fin m40 _ _ ha (by rw [aS]; unfold dec_; rw [if_pos q34]) (by omega)
/-- without the blanks at its end -/
def rt_ : List Int → List Int
  | [] => []
  | c :: t => if rt_ t = [] ∧ bl_ c then [] else c :: rt_ t
/-- without the blanks at its beginning and end -/
def tr_ (L : List Int) : List Int := rt_ (bb_ L)
theorem rt_snoc (c : Int) : ∀ l : List Int, rt_ (l ++ [c]) = if bl_ c then rt_ l else l ++ [c]
  | [] => by
    show (if rt_ [] = [] ∧ bl_ c then [] else c :: rt_ []) = _
    by_cases h : bl_ c
    · rw [if_pos h, if_pos ⟨rfl, h⟩]; rfl
    · rw [if_neg h, if_neg (fun z => h z.2)]; rfl
  | d :: t => by
    show (if rt_ (t ++ [c]) = [] ∧ bl_ d then [] else d :: rt_ (t ++ [c])) = _
    rw [rt_snoc c t]
    by_cases h : bl_ c
    · rw [if_pos h, if_pos h]; rfl
    · rw [if_neg h, if_neg h, if_neg (by simp)]; rfl
theorem bb_rt : ∀ L : List Int, bb_ (rt_ L) = rt_ (bb_ L)
  | [] => rfl
  | c :: t => by
    by_cases h : bl_ c
    · rw [bb_blk t h, rt_]
      by_cases h2 : rt_ t = []
      · rw [if_pos ⟨h2, h⟩, ← bb_rt t, h2]
      · rw [if_neg (fun z => h2 z.1), bb_blk _ h, bb_rt t]
    · rw [rt_, if_neg (fun z => h z.2), bb_, if_neg h, bb_, if_neg h, rt_, if_neg (fun z => h z.2)]
theorem rt_len : ∀ L : List Int, (rt_ L).length ≤ L.length
  | [] => Nat.le_refl _
  | c :: t => by
    have := rt_len t
    rw [rt_]
    split
    · simp
    · simp only [List.length_cons]; omega
theorem cM_trims {G : mt_G} {l : Launch} {mem : mt_M} {e nf a0 : Int} (h0 : 0 ≤ e) (h1 : e < 16) (hn : mem 185 (16 * e + 3) = nf) (hn0 : 0 ≤ nf) (hn1 : nf ≤ 8) (ht : tb_ mem) (ha : 0 < nf → mem 186 (4 * (8 * e + (nf - 1)) + 2) = a0 ∧ 0 ≤ a0 ∧ a0 ≤ mem 182 9) : CT G l y_M_trims c_M_trims 6 none 2 [vr G 182, vi e] mem (fun v m' => v = none ∧ (nf = 0 → mem = m') ∧ (0 < nf → ∃ a n : Int, a0 ≤ a ∧ 0 ≤ n ∧ a + n ≤ mem 182 9 ∧ slc (mem 187) a (a + n) = tr_ (slc (mem 187) a0 (mem 182 9)) ∧ m' = st_ (st_ mem 186 (4 * (8 * e + (nf - 1)) + 2) a) 186 (4 * (8 * e + (nf - 1)) + 3) n)) := by
  refine CT.intro (by decide) rfl (Nat.le_of_ble_eq_true rfl) (fun X h he => ?_)
  obtain ⟨t0, t1, t2⟩ := ht
  by_cases hz : nf = 0
  · refine jj_aload_n h d_M_trims_0 rfl ⟨_, rfl⟩ ?_
    refine jj_iload_n h d_M_trims_1 rfl ?_
    refine jj_iconst h d_M_trims_2 ?_
    refine jj_callV h (cM_of (by omega) (by omega)) cv_M_59 (ro_of he (by decide) (by decide)) rfl rfl (by decide) rfl rfl rfl (Nat.le_of_ble_eq_true rfl) d_M_trims_3 (fun v m3 hv => ?_)
    obtain ⟨rfl, rfl⟩ := hv
    rw [hn]
    refine jj_iconst h d_M_trims_6 ?_
    refine jj_isub h d_M_trims_7 ?_
    refine jj_istore_n h d_M_trims_8 (Nat.le_of_ble_eq_true rfl) rfl ?_
    refine jj_iload_n h d_M_trims_9 rfl ?_
    refine jj_if_ge h 14 d_M_trims_10 (by decide) ⟨by omega, by omega⟩ (fun q10 => absurd q10 (by omega)) (fun _ => ?_)
    refine jj_vret h he d_M_trims_13 ?_
    exact ⟨rfl, fun _ => rfl, fun z => by omega⟩
  · obtain ⟨g1, g2, g3⟩ := ha (by omega)
    generalize hk : 4 * (8 * e + (nf - 1)) = k at *
    generalize hT : mem 182 9 = T at *
    have loop2 : ∀ (n : Nat) (a b : Int), (b - a).toNat = n → a0 ≤ a → a ≤ b → b ≤ T → bb_ (slc (mem 187) a b) = tr_ (slc (mem 187) a0 T) → JJ G X 0 0 mem 67 [some (vr G 182), some (vi e), some (vi (nf - 1)), some (vi k), some (vi a), some (vi b)] [] := by
      intro n
      induction n with
      | zero =>
        intro a b q1 q2 q3 q4 q5
        refine jj_iload h d_M_trims_67 rfl ?_
        refine jj_iload h d_M_trims_69 rfl ?_
        refine jj_icmp_ge h 93 d_M_trims_71 (by decide) ⟨by omega, by omega⟩ ⟨by omega, by omega⟩ (fun _ => ?_) (fun q71 => absurd (by omega) q71)
        refine jj_aload_n h d_M_trims_93 rfl ⟨_, rfl⟩ ?_
        refine jj_g_M_field h  fl_M_19 d_M_trims_94 ?_
        refine jj_iload_n h d_M_trims_97 rfl ?_
        refine jj_iconst h d_M_trims_98 ?_
        refine jj_iadd h d_M_trims_99 ?_
        refine jj_iload h d_M_trims_100 rfl ?_
        refine jj_iastore (N := 512) h (by decide) (fun _ => rfl) (by decide) (by omega) (by omega) d_M_trims_102 ?_
        refine jj_aload_n h d_M_trims_103 rfl ⟨_, rfl⟩ ?_
        refine jj_g_M_field h  fl_M_19 d_M_trims_104 ?_
        refine jj_iload_n h d_M_trims_107 rfl ?_
        refine jj_iconst h d_M_trims_108 ?_
        refine jj_iadd h d_M_trims_109 ?_
        refine jj_iload h d_M_trims_110 rfl ?_
        refine jj_iload h d_M_trims_112 rfl ?_
        refine jj_isub h d_M_trims_114 ?_
        refine jj_iastore (N := 512) h (by decide) (fun _ => rfl) (by decide) (by omega) (by omega) d_M_trims_115 ?_
        refine jj_vret h he d_M_trims_116 ?_
        refine ⟨rfl, fun z => absurd z hz, fun _ => ⟨a, b - a, q2, by omega, by omega, ?_, rfl⟩⟩
        rw [← q5, slc_nil (by omega), slc_nil (by omega)]; rfl
      | succ n ih =>
        intro a b q1 q2 q3 q4 q5
        have hby := t2 a (by omega) (by omega)
        have hsc : slc (mem 187) a b = mem 187 a :: slc (mem 187) (a + 1) b := slc_cons (by omega)
        refine jj_iload h d_M_trims_67 rfl ?_
        refine jj_iload h d_M_trims_69 rfl ?_
        refine jj_icmp_ge h 93 d_M_trims_71 (by decide) ⟨by omega, by omega⟩ ⟨by omega, by omega⟩ (fun q71 => absurd q71 (by omega)) (fun _ => ?_)
        refine jj_aload_n h d_M_trims_74 rfl ⟨_, rfl⟩ ?_
        refine jj_g_M_text h  fl_M_22 d_M_trims_75 ?_
        refine jj_iload h d_M_trims_78 rfl ?_
        refine jj_iaload (N := 1400) h (by decide) rfl (by decide) (by omega) (by omega) d_M_trims_80 ?_
        refine jj_callS h (cM_isBlank ⟨by omega, by omega⟩) cv_M_62 (ro_of he (by decide) (by decide)) rfl rfl rfl (Nat.le_of_ble_eq_true rfl) d_M_trims_81 (fun v m81 hv => ?_)
        obtain ⟨rfl, rfl⟩ := hv
        refine jj_if_eq h 93 d_M_trims_84 (by decide) ⟨by split <;> omega, by split <;> omega⟩ (fun q84 => ?_) (fun q84 => ?_)
        · have q84 : ¬ bl_ (mem 187 a) := fun z => by rw [if_pos z] at q84; omega
          refine jj_aload_n h d_M_trims_93 rfl ⟨_, rfl⟩ ?_
          refine jj_g_M_field h  fl_M_19 d_M_trims_94 ?_
          refine jj_iload_n h d_M_trims_97 rfl ?_
          refine jj_iconst h d_M_trims_98 ?_
          refine jj_iadd h d_M_trims_99 ?_
          refine jj_iload h d_M_trims_100 rfl ?_
          refine jj_iastore (N := 512) h (by decide) (fun _ => rfl) (by decide) (by omega) (by omega) d_M_trims_102 ?_
          refine jj_aload_n h d_M_trims_103 rfl ⟨_, rfl⟩ ?_
          refine jj_g_M_field h  fl_M_19 d_M_trims_104 ?_
          refine jj_iload_n h d_M_trims_107 rfl ?_
          refine jj_iconst h d_M_trims_108 ?_
          refine jj_iadd h d_M_trims_109 ?_
          refine jj_iload h d_M_trims_110 rfl ?_
          refine jj_iload h d_M_trims_112 rfl ?_
          refine jj_isub h d_M_trims_114 ?_
          refine jj_iastore (N := 512) h (by decide) (fun _ => rfl) (by decide) (by omega) (by omega) d_M_trims_115 ?_
          refine jj_vret h he d_M_trims_116 ?_
          refine ⟨rfl, fun z => absurd z hz, fun _ => ⟨a, b - a, q2, by omega, by omega, ?_, rfl⟩⟩
          rw [← q5, hsc, bb_, if_neg q84, ← hsc]; congr 1; omega
        · have q84 : bl_ (mem 187 a) := Decidable.byContradiction fun z => q84 (by rw [if_neg z])
          refine jj_iinc h d_M_trims_87 rfl rfl ?_
          refine jj_goto h 67 d_M_trims_90 (by decide) ?_
          exact ih (a + 1) b (by omega) (by omega) (by omega) q4 (by rw [← q5, hsc, bb_blk _ q84])
    have loop1 : ∀ (n : Nat) (b : Int), (b - a0).toNat = n → a0 ≤ b → b ≤ T → rt_ (slc (mem 187) a0 b) = rt_ (slc (mem 187) a0 T) → JJ G X 0 0 mem 39 [some (vr G 182), some (vi e), some (vi (nf - 1)), some (vi k), some (vi a0), some (vi b)] [] := by
      intro n
      induction n with
      | zero =>
        intro b q1 q2 q3 q4
        rw [slc_nil (by omega)] at q4
        refine jj_iload h d_M_trims_39 rfl ?_
        refine jj_iload h d_M_trims_41 rfl ?_
        refine jj_icmp_le h 67 d_M_trims_43 (by decide) ⟨by omega, by omega⟩ ⟨by omega, by omega⟩ (fun _ => ?_) (fun q43 => absurd (by omega) q43)
        exact loop2 _ a0 b rfl (by omega) q2 q3 (by unfold tr_; rw [← bb_rt, ← q4, slc_nil (by omega)]; rfl)
      | succ n ih =>
        intro b q1 q2 q3 q4
        have hby := t2 (b - 1) (by omega) (by omega)
        have hsn : slc (mem 187) a0 b = slc (mem 187) a0 (b - 1) ++ [mem 187 (b - 1)] := by
          conv => lhs; rw [show b = b - 1 + 1 by omega]
          exact slc_snoc (by omega)
        refine jj_iload h d_M_trims_39 rfl ?_
        refine jj_iload h d_M_trims_41 rfl ?_
        refine jj_icmp_le h 67 d_M_trims_43 (by decide) ⟨by omega, by omega⟩ ⟨by omega, by omega⟩ (fun q43 => absurd q43 (by omega)) (fun _ => ?_)
        refine jj_aload_n h d_M_trims_46 rfl ⟨_, rfl⟩ ?_
        refine jj_g_M_text h  fl_M_22 d_M_trims_47 ?_
        refine jj_iload h d_M_trims_50 rfl ?_
        refine jj_iconst h d_M_trims_52 ?_
        refine jj_isub h d_M_trims_53 ?_
        refine jj_iaload (N := 1400) h (by decide) rfl (by decide) (by omega) (by omega) d_M_trims_54 ?_
        refine jj_callS h (cM_isBlank ⟨by omega, by omega⟩) cv_M_62 (ro_of he (by decide) (by decide)) rfl rfl rfl (Nat.le_of_ble_eq_true rfl) d_M_trims_55 (fun v m55 hv => ?_)
        obtain ⟨rfl, rfl⟩ := hv
        refine jj_if_eq h 67 d_M_trims_58 (by decide) ⟨by split <;> omega, by split <;> omega⟩ (fun q58 => ?_) (fun q58 => ?_)
        · have q58 : ¬ bl_ (mem 187 (b - 1)) := fun z => by rw [if_pos z] at q58; omega
          exact loop2 _ a0 b rfl (by omega) q2 q3 (by unfold tr_; rw [← bb_rt, ← q4, hsn, rt_snoc, if_neg q58])
        · have q58 : bl_ (mem 187 (b - 1)) := Decidable.byContradiction fun z => q58 (by rw [if_neg z])
          refine jj_iinc h d_M_trims_61 rfl rfl ?_
          refine jj_goto h 39 d_M_trims_64 (by decide) ?_
          exact ih (b - 1) (by omega) (by omega) (by omega) (by rw [← q4, hsn, rt_snoc, if_pos q58])
    refine jj_aload_n h d_M_trims_0 rfl ⟨_, rfl⟩ ?_
    refine jj_iload_n h d_M_trims_1 rfl ?_
    refine jj_iconst h d_M_trims_2 ?_
    refine jj_callV h (cM_of (by omega) (by omega)) cv_M_59 (ro_of he (by decide) (by decide)) rfl rfl (by decide) rfl rfl rfl (Nat.le_of_ble_eq_true rfl) d_M_trims_3 (fun v m3 hv => ?_)
    obtain ⟨rfl, rfl⟩ := hv
    rw [hn]
    refine jj_iconst h d_M_trims_6 ?_
    refine jj_isub h d_M_trims_7 ?_
    refine jj_istore_n h d_M_trims_8 (Nat.le_of_ble_eq_true rfl) rfl ?_
    refine jj_iload_n h d_M_trims_9 rfl ?_
    refine jj_if_ge h 14 d_M_trims_10 (by decide) ⟨by omega, by omega⟩ (fun _ => ?_) (fun q10 => absurd (by omega) q10)
    refine jj_iconst h d_M_trims_14 ?_
    refine jj_bipush h d_M_trims_15 (by decide) ?_
    refine jj_iload_n h d_M_trims_17 rfl ?_
    refine jj_imul h d_M_trims_18 ?_
    refine jj_iload_n h d_M_trims_19 rfl ?_
    refine jj_iadd h d_M_trims_20 ?_
    refine jj_imul h d_M_trims_21 ?_
    rw [hk]
    refine jj_istore_n h d_M_trims_22 (Nat.le_of_ble_eq_true rfl) rfl ?_
    refine jj_aload_n h d_M_trims_23 rfl ⟨_, rfl⟩ ?_
    refine jj_g_M_field h  fl_M_19 d_M_trims_24 ?_
    refine jj_iload_n h d_M_trims_27 rfl ?_
    refine jj_iconst h d_M_trims_28 ?_
    refine jj_iadd h d_M_trims_29 ?_
    refine jj_iaload (N := 512) h (by decide) rfl (by decide) (by omega) (by omega) d_M_trims_30 ?_
    rw [g1]
    refine jj_istore h d_M_trims_31 (Nat.le_of_ble_eq_true rfl) rfl ?_
    refine jj_aload_n h d_M_trims_33 rfl ⟨_, rfl⟩ ?_
    refine jj_g_M_textSize h  fl_M_56 d_M_trims_34 ?_
    rw [hT]
    refine jj_istore h d_M_trims_37 (Nat.le_of_ble_eq_true rfl) rfl ?_
    exact loop1 _ T rfl g3 (by omega) rfl
