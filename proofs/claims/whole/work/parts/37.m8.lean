/-! The reference: encoding, parameters, boundary, kind. -/
theorem fld_u {mem : mt_M} {e nf : Int} {w : List Int} {o o' : Option (List Int)} (h : fld_ mem e nf w o) (h' : fld_ mem e nf w o') : o = o' := by
  cases o with
  | none =>
    cases o' with
    | none => rfl
    | some v => obtain ⟨r, r0, r1, r2, -⟩ := h'; exact absurd r2 (h r r0 r1)
  | some v =>
    obtain ⟨r, r0, r1, r2, r3, rfl⟩ := h
    cases o' with
    | none => exact absurd r2 (h' r r0 r1)
    | some v' =>
      obtain ⟨q, q0, q1, q2, q3, rfl⟩ := h'
      have : r = q := by
        rcases Int.lt_trichotomy r q with g | g | g
        · exact absurd r2 (q3 r r0 g)
        · exact g
        · exact absurd q2 (r3 q q0 g)
      rw [this]
theorem sL_enter {mem : mt_M} {e nf r : Int} (ht : tb_ mem) (hf : fw_ mem e nf) (h0 : 0 ≤ r) (h1 : r < nf) : sL (st_ (st_ mem 182 13 (mem 186 (4 * (8 * e + r) + 2))) 182 14 (mem 186 (4 * (8 * e + r) + 2) + mem 186 (4 * (8 * e + r) + 3))) (mem 186 (4 * (8 * e + r) + 2) + mem 186 (4 * (8 * e + r) + 3)) (fV_ mem e r) := by
  have g := hf.2.2.2.2.2 r h0 h1
  obtain ⟨t0, t1, t2⟩ := ht
  have e1 : (st_ (st_ mem 182 13 (mem 186 (4 * (8 * e + r) + 2))) 182 14 (mem 186 (4 * (8 * e + r) + 2) + mem 186 (4 * (8 * e + r) + 3))) 182 13 = mem 186 (4 * (8 * e + r) + 2) := by rw [st_ne (by decide), st_same]
  refine ⟨⟨rfl, st_same, by rw [e1]; omega, by rw [e1]; omega, by omega, ?_⟩, ?_⟩
  · rw [e1, st_row (by decide), st_row (by decide)]; exact t2.sub (by omega) (by omega)
  · rw [e1, st_row (by decide), st_row (by decide)]; rfl
theorem sL.nil {mem : mt_M} {s : Int} {L : List Int} (h : sL mem s L) : L = [] ↔ mem 182 13 = s := by
  have := h.len
  constructor
  · rintro rfl; simp at this; omega
  · intro q; exact List.length_eq_zero_iff.mp (by omega)
def encO_ (o : Option (List Int)) : Int := match o with
  | none => 0
  | some L => enc_ L
theorem cM_encoding {G : mt_G} {l : Launch} {mem : mt_M} {e nf : Int} {o : Option (List Int)} (ht : tb_ mem) (hf : fw_ mem e nf) (ho : fld_ mem e nf w_cte o) : CT G l y_M_encoding c_M_encoding 5 (some .int) 5 [vr G 182, vi e] mem (fun v m' => v = some (vi (encO_ o)) ∧ fs_ mem m' ∧ m' 182 9 = mem 182 9) := by
  refine CT.intro (by decide) rfl (Nat.le_of_ble_eq_true rfl) (fun X h he => ?_)
  have tail : ∀ r : Int, 0 ≤ r → r < nf → o = some (fV_ mem e r) → JJ G X 0 0 mem 21 [some (vr G 182), some (vi e), some (vi r), none, none] [] := by
    intro r h0 h1 hr
    subst hr
    have g := hf.2.2.2.2.2 r h0 h1
    have hs := sL_enter ht hf h0 h1
    have ht1 := ht.2.1
    generalize hV : fV_ mem e r = V at *
    refine jj_aload_n h d_M_encoding_21 rfl ⟨_, rfl⟩ ?_
    refine jj_iload_n h d_M_encoding_22 rfl ?_
    refine jj_iload_n h d_M_encoding_23 rfl ?_
    refine jj_callV h (cM_enter hf h0 h1) cv_M_133 (ro_of he (by decide) (by decide)) rfl rfl (by decide) rfl rfl rfl (Nat.le_of_ble_eq_true rfl) d_M_encoding_24 (fun v m24 hv => ?_)
    obtain ⟨rfl, hm1⟩ := hv
    rw [hm1] at hs
    have f1 : fs_ mem m24 := by rw [← hm1]; exact fs_.enter
    have t1 : m24 182 9 = mem 182 9 := by rw [← hm1, st_ne (by decide), st_ne (by decide)]
    clear hm1
    refine jj_aload_n h d_M_encoding_27 rfl ⟨_, rfl⟩ ?_
    refine jj_callV h (cM_spaceL hs) cv_M_137 (ro_of he (by decide) (by decide)) rfl rfl (by decide) rfl rfl rfl (Nat.le_of_ble_eq_true rfl) d_M_encoding_28 (fun v m28 hv => ?_)
    obtain ⟨rfl, q1, hs2, -⟩ := hv
    have f2 := f1.fr q1.fr
    have t2 := (q1 182 9 (Or.inr (by decide))).trans t1
    refine jj_aload_n h d_M_encoding_31 rfl ⟨_, rfl⟩ ?_
    refine jj_callV h (cM_atomL hs2) cv_M_140 (ro_of he (by decide) (by decide)) rfl rfl (by decide) rfl rfl rfl (Nat.le_of_ble_eq_true rfl) d_M_encoding_32 (fun v m32 hv => ?_)
    obtain ⟨rfl, q2, hs3, w1, w2, w3, w4, w5⟩ := hv
    have f3 := f2.fr q2.fr
    have t3 := (q2 182 9 (Or.inr (by decide))).trans t2
    refine jj_if_ne h 40 d_M_encoding_35 (by decide) ⟨by split <;> omega, by split <;> omega⟩ (fun q35 => ?_) (fun q35 => ?_)
    · have e1 : ¬ (skp 0 V).takeWhile at_ = [] := fun z => q35 (by rw [if_pos z])
      refine jj_aload_n h d_M_encoding_40 rfl ⟨_, rfl⟩ ?_
      refine jj_g_M_wordAt h  fl_M_106 d_M_encoding_41 ?_
      refine jj_istore_n h d_M_encoding_44 (Nat.le_of_ble_eq_true rfl) rfl ?_
      refine jj_aload_n h d_M_encoding_45 rfl ⟨_, rfl⟩ ?_
      refine jj_g_M_wordSize h  fl_M_112 d_M_encoding_46 ?_
      refine jj_istore h d_M_encoding_49 (Nat.le_of_ble_eq_true rfl) rfl ?_
      refine jj_aload_n h d_M_encoding_51 rfl ⟨_, rfl⟩ ?_
      refine jj_callV h (cM_spaceL hs3) cv_M_137 (ro_of he (by decide) (by decide)) rfl rfl (by decide) rfl rfl rfl (Nat.le_of_ble_eq_true rfl) d_M_encoding_52 (fun v m52 hv => ?_)
      obtain ⟨rfl, q3, hs4, -⟩ := hv
      have f4 := f3.fr q3.fr
      have t4 := (q3 182 9 (Or.inr (by decide))).trans t3
      have hat4 := hs4.nil
      have hl4 := hs4.len
      have hst4 := hs4.1.2.1
      have e2 : atm (skp 0 V) = some ((skp 0 V).takeWhile at_, (skp 0 V).dropWhile at_) := if_neg e1
      have hz4 := hs4.1.2.2
      have e3 : m52 187 = m28 187 := q3.txt.trans q2.txt
      refine jj_aload_n h d_M_encoding_55 rfl ⟨_, rfl⟩ ?_
      refine jj_g_M_at h  fl_M_93 d_M_encoding_56 ?_
      refine jj_aload_n h d_M_encoding_59 rfl ⟨_, rfl⟩ ?_
      refine jj_g_M_stop h  fl_M_96 d_M_encoding_60 ?_
      rw [hst4]
      refine jj_icmp_ge h 68 d_M_encoding_63 (by decide) ⟨by omega, by omega⟩ ⟨by omega, by omega⟩ (fun q63 => ?_) (fun q63 => ?_)
      · have e4 : skp 0 ((skp 0 V).dropWhile at_) = [] := hat4.mpr (by omega)
        have hbw : by_ (m52 187) 0 (m52 182 9) := by rw [t4]; intro i i0 i1; rw [f4.2 _ _ (Or.inr i1) (Or.inl (by decide))]; exact ht.2.2 i i0 i1
        refine jj_aload_n h d_M_encoding_68 rfl ⟨_, rfl⟩ ?_
        refine jj_iload_n h d_M_encoding_69 rfl ?_
        refine jj_iload h d_M_encoding_70 rfl ?_
        refine jj_ldc2 h (3393535433524) d_M_encoding_72 wk_M_144 ?_
        refine jj_lconst0 h d_M_encoding_75 ?_
        refine jj_lconst0 h d_M_encoding_76 ?_
        refine jj_callV h (cM_isWord wl_base64.1 wl_base64.2 w1 w2 (by omega) (hbw.sub w1 (by omega))) cv_M_119 (ro_of he (by decide) (by decide)) rfl rfl (by decide) rfl rfl rfl (Nat.le_of_ble_eq_true rfl) d_M_encoding_77 (fun v m77 hv => ?_)
        obtain ⟨rfl, rfl⟩ := hv
        rw [e3, w5]
        refine jj_if_eq h 87 d_M_encoding_80 (by decide) ⟨by split <;> omega, by split <;> omega⟩ (fun q80 => ?_) (fun q80 => ?_)
        · have e5 : ¬ wd_ w_base64 ((skp 0 V).takeWhile at_) = true := fun z => by rw [if_pos z] at q80; omega
          refine jj_aload_n h d_M_encoding_87 rfl ⟨_, rfl⟩ ?_
          refine jj_iload_n h d_M_encoding_88 rfl ?_
          refine jj_iload h d_M_encoding_89 rfl ?_
          refine jj_ldc2 h (8208865467050981490) d_M_encoding_91 wk_M_146 ?_
          refine jj_ldc2 h (465605798442597) d_M_encoding_94 wk_M_148 ?_
          refine jj_lconst0 h d_M_encoding_97 ?_
          refine jj_callV h (cM_isWord wl_qp.1 wl_qp.2 w1 w2 (by omega) (hbw.sub w1 (by omega))) cv_M_119 (ro_of he (by decide) (by decide)) rfl rfl (by decide) rfl rfl rfl (Nat.le_of_ble_eq_true rfl) d_M_encoding_98 (fun v m98 hv => ?_)
          obtain ⟨rfl, rfl⟩ := hv
          rw [e3, w5]
          refine jj_if_eq h 108 d_M_encoding_101 (by decide) ⟨by split <;> omega, by split <;> omega⟩ (fun q101 => ?_) (fun q101 => ?_)
          · have e6 : ¬ wd_ w_qp ((skp 0 V).takeWhile at_) = true := fun z => by rw [if_pos z] at q101; omega
            refine jj_iconst h d_M_encoding_108 ?_
            refine jj_iret h he d_M_encoding_109 ?_
            exact ⟨by simp only [encO_, enc_, e2, if_pos e4, if_neg e5, if_neg e6], f4, t4⟩
          · have e6 : wd_ w_qp ((skp 0 V).takeWhile at_) = true := Decidable.byContradiction fun z => q101 (by rw [if_neg z])
            refine jj_iconst h d_M_encoding_104 ?_
            refine jj_goto h 109 d_M_encoding_105 (by decide) ?_
            refine jj_iret h he d_M_encoding_109 ?_
            exact ⟨by simp only [encO_, enc_, e2, if_pos e4, if_neg e5, if_pos e6], f4, t4⟩
        · have e5 : wd_ w_base64 ((skp 0 V).takeWhile at_) = true := Decidable.byContradiction fun z => q80 (by rw [if_neg z])
          refine jj_iconst h d_M_encoding_83 ?_
          refine jj_goto h 109 d_M_encoding_84 (by decide) ?_
          refine jj_iret h he d_M_encoding_109 ?_
          exact ⟨by simp only [encO_, enc_, e2, if_pos e4, if_pos e5], f4, t4⟩
      · refine jj_iconst h d_M_encoding_66 ?_
        refine jj_iret h he d_M_encoding_67 ?_
        refine ⟨?_, f4, t4⟩
        have e4 : ¬ skp 0 ((skp 0 V).dropWhile at_) = [] := fun z => by have := hat4.mp z; omega
        simp only [encO_, enc_, e2, if_neg e4]
    · have e1 : (skp 0 V).takeWhile at_ = [] := Decidable.byContradiction fun z => by rw [if_neg z] at q35; omega
      refine jj_iconst h d_M_encoding_38 ?_
      refine jj_iret h he d_M_encoding_39 ?_
      refine ⟨?_, f3, t3⟩
      have e2 : atm (skp 0 V) = none := if_pos e1
      simp only [encO_, enc_, e2]
  refine jj_aload_n h d_M_encoding_0 rfl ⟨_, rfl⟩ ?_
  refine jj_iload_n h d_M_encoding_1 rfl ?_
  refine jj_ldc2 h (7196677052775077620) d_M_encoding_2 wk_M_123 ?_
  refine jj_ldc2 h (8269659629885888229) d_M_encoding_5 wk_M_125 ?_
  refine jj_ldc2 h (487216738105191) d_M_encoding_8 wk_M_127 ?_
  refine jj_callV h (cM_firstField wl_cte ht hf) cv_M_129 (ro_of he (by decide) (by decide)) rfl rfl (by decide) rfl rfl rfl (Nat.le_of_ble_eq_true rfl) d_M_encoding_11 (fun v m11 hv => ?_)
  obtain ⟨rfl, r, rfl, hr⟩ := hv
  refine jj_istore_n h d_M_encoding_14 (Nat.le_of_ble_eq_true rfl) rfl ?_
  refine jj_iload_n h d_M_encoding_15 rfl ?_
  refine jj_if_ge h 21 d_M_encoding_16 (by decide) ⟨by omega, by have := hf.2.2.2.1; omega⟩ (fun q16 => ?_) (fun q16 => ?_)
  · rcases hr with hr | ⟨h0, h1, h2, h3⟩
    · omega
    · exact tail r h0 h1 (fld_u ho (show fld_ mem e nf w_cte (some (fV_ mem e r)) from ⟨r, h0, h1, h2, h3, rfl⟩))
  · refine jj_iconst h d_M_encoding_19 ?_
    refine jj_iret h he d_M_encoding_20 ?_
    rcases hr with ⟨-, hr⟩ | hr
    · rw [fld_u ho (show fld_ mem e nf w_cte none from hr)]; exact ⟨rfl, fs_.rf, rfl⟩
    · omega
/-- a parameter, or none: parameter() -/
def pP (mem : mt_M) (s : Int) (L : List Int) (v : Option Value) (m' : mt_M) : Prop := fr_ mem m' ∧ m' 182 9 ≤ mem 182 9 + (m' 182 13 - mem 182 13) ∧ mem 182 13 ≤ m' 182 13 ∧ m' 182 13 ≤ s ∧ by_ (m' 187) 0 (m' 182 9) ∧ match par L with
  | none => v = some (vi 0)
  | some q => v = some (vi (if q.1 then 2 else 1)) ∧ sL m' s q.2.2 ∧ mem 182 13 < m' 182 13 ∧ 0 ≤ m' 182 15 ∧ m' 182 16 = q.2.1.length ∧ m' 182 15 + m' 182 16 ≤ m' 182 9 ∧ slc (m' 187) (m' 182 15) (m' 182 15 + m' 182 16) = q.2.1
theorem fr_.by {a b : mt_M} (h : fr_ a b) (ht : b 182 9 = a 182 9) (hb : by_ (a 187) 0 (a 182 9)) : by_ (b 187) 0 (b 182 9) := fun i i0 i1 => by rw [h.txt (by omega)]; exact hb i i0 (by omega)
theorem sL.mov {a b : mt_M} {s : Int} {L : List Int} (h : sL a s L) (hf : fr_ a b) (h1 : b 182 13 = a 182 13) (h2 : s ≤ a 182 9) : sL b s L := by
  obtain ⟨⟨q1, q2, q3, q4, q5, q6⟩, q7⟩ := h
  refine ⟨⟨rfl, ?_, by omega, by omega, q5, ?_⟩, ?_⟩
  · rw [hf.2 _ _ (Or.inl (by decide)) (Or.inr (by decide))]; exact q2
  · rw [h1]; intro i i0 i1; rw [hf.txt (by omega)]; exact q6 i i0 i1
  · rw [h1, hf.slc h2]; exact q7
theorem cM_quotedL {G : mt_G} {l : Launch} {mem : mt_M} {s : Int} {L : List Int} (hs : sL mem s (34 :: L)) (hts : s ≤ mem 182 9) (hro : mem 182 9 + (s - mem 182 13) ≤ 1400) (hb : by_ (mem 187) 0 (mem 182 9)) : CT G l y_M_quoted c_M_quoted 1 (some .boolean) 3 [vr G 182] mem (fun v m' => by_ (m' 187) 0 (m' 182 9) ∧ fr_ mem m' ∧ m' 182 9 ≤ mem 182 9 + (m' 182 13 - mem 182 13) ∧ mem 182 13 ≤ m' 182 13 ∧ m' 182 13 ≤ s ∧ match qtd L with
    | none => v = some (vi 0)
    | some q => v = some (vi 1) ∧ sL m' s q.2 ∧ m' 182 15 = mem 182 9 ∧ m' 182 16 = q.1.length ∧ m' 182 9 = mem 182 9 + q.1.length ∧ slc (m' 187) (mem 182 9) (m' 182 9) = q.1) := by
  have hl := hs.len
  rw [List.length_cons] at hl
  have h7 := hs.2
  rw [slc_cons (by omega)] at h7
  obtain ⟨h34, hL⟩ := List.cons.inj h7
  refine (cM_quoted hs.1 hts hro (by omega) h34 hb).mono (fun v m hv => ?_)
  obtain ⟨f0, f1, f2, f3, f4, f5⟩ := hv
  refine ⟨f0, f1, f2, f3, f4, ?_⟩
  rw [hL] at f5
  cases hq : qtd L with
  | none => rw [hq] at f5; exact f5
  | some q =>
    rw [hq] at f5
    obtain ⟨g1, g2, g3, g4, g5, g6⟩ := f5
    refine ⟨g1, ?_, g3, g4, g5, g6⟩
    have hsu := hs.suf ((qtd_suf L q hq).trans (List.suffix_cons 34 L))
    have hfr : fr_ (st_ mem 182 13 (s - q.2.length)) m := ⟨by rw [st_ne (by decide)]; exact f1.1, fun r z p z2 => by
      rw [st_ne (by rcases z2 with z2 | z2; exact Or.inl z2; exact Or.inr z2.1)]
      exact f1.2 r z (by rw [st_ne (by decide)] at p; exact p) z2⟩
    exact hsu.mov hfr (by rw [st_same]; exact g2) (by rw [st_ne (by decide)]; exact hts)
