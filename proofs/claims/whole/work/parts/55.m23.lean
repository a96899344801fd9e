/-! The reference: content, boundary, feed; a row written from a place on. -/
def okC (L : List mt_E) (e i : Int) : Prop := (0 ≤ e ∧ e < L.length) ∧ 0 ≤ i ∧ i < (gE L e).2.2.1.length
theorem cM_content {G : mt_G} {l : Launch} {mem : mt_M} {L : List mt_E} {e i : Int} (h9 : RM mem L) (he : r32 e) (hi : r32 i) : CT G l y_M_content c_M_content 4 (some .int) 2 [vr G 182, vi e, vi i] mem (fun v m' => (okC L e i → v = some (vi ((gE L e).2.2.1.getD i.toNat 0)) ∧ st_ mem 182 0 0 = m') ∧ (¬ okC L e i → v = some (vi 0) ∧ st_ mem 182 0 1 = m')) := by
  obtain ⟨i1, i2⟩ := hi
  have her := he
  have hl := h9.2.2.1
  have ht := h9.2.2.2
  refine CT.intro (by decide) rfl (Nat.le_of_ble_eq_true rfl) (fun X h he => ?_)
  unfold okC at he
  by_cases hE : 0 ≤ e ∧ e < L.length
  · have hR := h9.at hE.1 hE.2
    have h5 := hR.1 5 (by decide) (by decide)
    obtain ⟨c1, c2, c3, c4⟩ := hR.2.2.1
    have t1 := ht.2.1
    generalize hQ : (gE L e).2.2.1 = Q at *
    rw [c2] at h5 c3 c4
    refine jj_aload_n h d_M_content_0 rfl ⟨_, rfl⟩ ?_
    refine jj_iload_n h d_M_content_1 rfl ?_
    refine jj_callV h (cM_isEntity h9 her) cv_M_224 (ro_of he (by decide) (by decide)) rfl rfl (by decide) rfl rfl rfl (Nat.le_of_ble_eq_true rfl) d_M_content_2 (fun v m2 hv => ?_)
    obtain ⟨rfl, rfl⟩ := hv
    rw [if_pos hE]
    refine jj_if_eq h 26 d_M_content_5 (by decide) ⟨by decide, by decide⟩ (fun q5 => absurd q5 ((by decide))) (fun _ => ?_)
    refine jj_iload_n h d_M_content_8 rfl ?_
    refine jj_if_lt h 26 d_M_content_9 (by decide) ⟨by omega, by omega⟩ (fun q9 => ?_) (fun q9 => ?_)
    · refine jj_iconst h d_M_content_26 ?_
      refine jj_istore_n h d_M_content_27 (Nat.le_of_ble_eq_true rfl) rfl ?_
      refine jj_aload_n h d_M_content_28 rfl ⟨_, rfl⟩ ?_
      refine jj_iload_n h d_M_content_29 rfl ?_
      refine jj_if_ne h 37 d_M_content_30 (by decide) ⟨by decide, by decide⟩ (fun q30 => absurd ((by decide)) q30) (fun _ => ?_)
      refine jj_iconst h d_M_content_33 ?_
      refine jj_goto h 38 d_M_content_34 (by decide) ?_
      refine jj_iconst h d_M_content_38 ?_
      refine jj_callV h (cM_fails (Or.inr rfl) (Or.inl rfl)) cv_M_227 (ro_of he (by decide) (by decide)) rfl rfl (by decide) rfl rfl rfl (Nat.le_of_ble_eq_true rfl) d_M_content_39 (fun v m39 hv => ?_)
      obtain ⟨rfl, rfl⟩ := hv
      refine jj_if_eq h 49 d_M_content_42 (by decide) ⟨by decide, by decide⟩ (fun q42 => absurd q42 ((by decide))) (fun _ => ?_)
      refine jj_iconst h d_M_content_45 ?_
      refine jj_goto h 63 d_M_content_46 (by decide) ?_
      refine jj_iret h he d_M_content_63 ?_
      exact ⟨fun z => by omega, fun _ => ⟨rfl, rfl⟩⟩
    · refine jj_iload_n h d_M_content_12 rfl ?_
      refine jj_aload_n h d_M_content_13 rfl ⟨_, rfl⟩ ?_
      refine jj_iload_n h d_M_content_14 rfl ?_
      refine jj_iconst h d_M_content_15 ?_
      refine jj_callV h (cM_of (by omega) (by omega)) cv_M_59 (ro_of he (by decide) (by decide)) rfl rfl (by decide) rfl rfl rfl (Nat.le_of_ble_eq_true rfl) d_M_content_16 (fun v m16 hv => ?_)
      obtain ⟨rfl, rfl⟩ := hv
      rw [h5]
      refine jj_icmp_ge h 26 d_M_content_19 (by decide) ⟨by omega, by omega⟩ ⟨by omega, by omega⟩ (fun q19 => ?_) (fun q19 => ?_)
      · refine jj_iconst h d_M_content_26 ?_
        refine jj_istore_n h d_M_content_27 (Nat.le_of_ble_eq_true rfl) rfl ?_
        refine jj_aload_n h d_M_content_28 rfl ⟨_, rfl⟩ ?_
        refine jj_iload_n h d_M_content_29 rfl ?_
        refine jj_if_ne h 37 d_M_content_30 (by decide) ⟨by decide, by decide⟩ (fun q30 => absurd ((by decide)) q30) (fun _ => ?_)
        refine jj_iconst h d_M_content_33 ?_
        refine jj_goto h 38 d_M_content_34 (by decide) ?_
        refine jj_iconst h d_M_content_38 ?_
        refine jj_callV h (cM_fails (Or.inr rfl) (Or.inl rfl)) cv_M_227 (ro_of he (by decide) (by decide)) rfl rfl (by decide) rfl rfl rfl (Nat.le_of_ble_eq_true rfl) d_M_content_39 (fun v m39 hv => ?_)
        obtain ⟨rfl, rfl⟩ := hv
        refine jj_if_eq h 49 d_M_content_42 (by decide) ⟨by decide, by decide⟩ (fun q42 => absurd q42 ((by decide))) (fun _ => ?_)
        refine jj_iconst h d_M_content_45 ?_
        refine jj_goto h 63 d_M_content_46 (by decide) ?_
        refine jj_iret h he d_M_content_63 ?_
        exact ⟨fun z => by omega, fun _ => ⟨rfl, rfl⟩⟩
      · refine jj_iconst h d_M_content_22 ?_
        refine jj_goto h 27 d_M_content_23 (by decide) ?_
        refine jj_istore_n h d_M_content_27 (Nat.le_of_ble_eq_true rfl) rfl ?_
        refine jj_aload_n h d_M_content_28 rfl ⟨_, rfl⟩ ?_
        refine jj_iload_n h d_M_content_29 rfl ?_
        refine jj_if_ne h 37 d_M_content_30 (by decide) ⟨by decide, by decide⟩ (fun _ => ?_) (fun q30 => absurd q30 ((by decide)))
        refine jj_iconst h d_M_content_37 ?_
        refine jj_iconst h d_M_content_38 ?_
        refine jj_callV h (cM_fails (Or.inl rfl) (Or.inl rfl)) cv_M_227 (ro_of he (by decide) (by decide)) rfl rfl (by decide) rfl rfl rfl (Nat.le_of_ble_eq_true rfl) d_M_content_39 (fun v m39 hv => ?_)
        obtain ⟨rfl, rfl⟩ := hv
        refine jj_if_eq h 49 d_M_content_42 (by decide) ⟨by decide, by decide⟩ (fun _ => ?_) (fun q42 => absurd (rfl) q42)
        refine jj_aload_n h d_M_content_49 rfl ⟨_, rfl⟩ ?_
        refine jj_g_M_text h  fl_M_22 d_M_content_50 ?_
        refine jj_aload_n h d_M_content_53 rfl ⟨_, rfl⟩ ?_
        refine jj_iload_n h d_M_content_54 rfl ?_
        refine jj_bipush h d_M_content_55 (by decide) ?_
        refine jj_callV h (cM_of (by omega) (by omega)) cv_M_59 (ro_of he (by decide) (by decide)) rfl rfl (by decide) rfl rfl rfl (Nat.le_of_ble_eq_true rfl) d_M_content_57 (fun v m57 hv => ?_)
        obtain ⟨rfl, rfl⟩ := hv
        rw [st_row (by decide)]
        refine jj_iload_n h d_M_content_60 rfl ?_
        refine jj_iadd h d_M_content_61 ?_
        refine jj_iaload (N := 1400) h (by decide) rfl (by decide) (by omega) (by omega) d_M_content_62 ?_
        rw [st_row (by decide)]
        refine jj_iret h he d_M_content_63 ?_
        refine ⟨fun _ => ⟨?_, rfl⟩, fun z => by omega⟩
        have := slc_get (f := mem 187) (p := mem 185 (16 * e + 10)) (e := mem 185 (16 * e + 10) + Q.length) (i := i) (by omega) (by omega)
        rw [c4] at this
        rw [List.getD_eq_getElem?_getD, this]; rfl
  · refine jj_aload_n h d_M_content_0 rfl ⟨_, rfl⟩ ?_
    refine jj_iload_n h d_M_content_1 rfl ?_
    refine jj_callV h (cM_isEntity h9 her) cv_M_224 (ro_of he (by decide) (by decide)) rfl rfl (by decide) rfl rfl rfl (Nat.le_of_ble_eq_true rfl) d_M_content_2 (fun v m2 hv => ?_)
    obtain ⟨rfl, rfl⟩ := hv
    rw [if_neg hE]
    refine jj_if_eq h 26 d_M_content_5 (by decide) ⟨by decide, by decide⟩ (fun _ => ?_) (fun q5 => absurd (rfl) q5)
    refine jj_iconst h d_M_content_26 ?_
    refine jj_istore_n h d_M_content_27 (Nat.le_of_ble_eq_true rfl) rfl ?_
    refine jj_aload_n h d_M_content_28 rfl ⟨_, rfl⟩ ?_
    refine jj_iload_n h d_M_content_29 rfl ?_
    refine jj_if_ne h 37 d_M_content_30 (by decide) ⟨by decide, by decide⟩ (fun q30 => absurd ((by decide)) q30) (fun _ => ?_)
    refine jj_iconst h d_M_content_33 ?_
    refine jj_goto h 38 d_M_content_34 (by decide) ?_
    refine jj_iconst h d_M_content_38 ?_
    refine jj_callV h (cM_fails (Or.inr rfl) (Or.inl rfl)) cv_M_227 (ro_of he (by decide) (by decide)) rfl rfl (by decide) rfl rfl rfl (Nat.le_of_ble_eq_true rfl) d_M_content_39 (fun v m39 hv => ?_)
    obtain ⟨rfl, rfl⟩ := hv
    refine jj_if_eq h 49 d_M_content_42 (by decide) ⟨by decide, by decide⟩ (fun q42 => absurd q42 ((by decide))) (fun _ => ?_)
    refine jj_iconst h d_M_content_45 ?_
    refine jj_goto h 63 d_M_content_46 (by decide) ?_
    refine jj_iret h he d_M_content_63 ?_
    exact ⟨fun z => absurd z.1 hE, fun _ => ⟨rfl, rfl⟩⟩
/-- a byte of a boundary, or -1 -/
def bdS (E : mt_E) (i : Int) : Int := if E.1 0 = 1 ∧ 0 ≤ i ∧ i < E.2.2.2.length then E.2.2.2.getD i.toNat 0 else -1
theorem cM_boundary {G : mt_G} {l : Launch} {mem : mt_M} {L : List mt_E} {e i : Int} (h9 : RM mem L) (he : r32 e) (hi : r32 i) (hk : ∀ e : Int, 0 ≤ e → e < L.length → r32 ((gE L e).1 0)) : CT G l y_M_boundary c_M_boundary 3 (some .int) 2 [vr G 182, vi e, vi i] mem (fun v m' => ((0 ≤ e ∧ e < L.length) → v = some (vi (bdS (gE L e) i)) ∧ st_ mem 182 0 0 = m') ∧ (¬ (0 ≤ e ∧ e < L.length) → v = some (vi 0) ∧ st_ mem 182 0 1 = m')) := by
  obtain ⟨i1, i2⟩ := hi
  have her := he
  have hl := h9.2.2.1
  have ht := h9.2.2.2
  refine CT.intro (by decide) rfl (Nat.le_of_ble_eq_true rfl) (fun X h he => ?_)
  by_cases hE : 0 ≤ e ∧ e < L.length
  · have hR := h9.at hE.1 hE.2
    have hk0 := hk e hE.1 hE.2
    have h0 := hR.1 0 (by decide) (by decide)
    have c4 := hR.2.2.2
    have t1 := ht.2.1
    refine jj_aload_n h d_M_boundary_0 rfl ⟨_, rfl⟩ ?_
    refine jj_aload_n h d_M_boundary_1 rfl ⟨_, rfl⟩ ?_
    refine jj_iload_n h d_M_boundary_2 rfl ?_
    refine jj_callV h (cM_isEntity h9 her) cv_M_224 (ro_of he (by decide) (by decide)) rfl rfl (by decide) rfl rfl rfl (Nat.le_of_ble_eq_true rfl) d_M_boundary_3 (fun v m3 hv => ?_)
    obtain ⟨rfl, rfl⟩ := hv
    rw [if_pos hE]
    refine jj_if_ne h 13 d_M_boundary_6 (by decide) ⟨by decide, by decide⟩ (fun _ => ?_) (fun q6 => absurd q6 ((by decide)))
    refine jj_iconst h d_M_boundary_13 ?_
    refine jj_iconst h d_M_boundary_14 ?_
    refine jj_callV h (cM_fails (Or.inl rfl) (Or.inl rfl)) cv_M_227 (ro_of he (by decide) (by decide)) rfl rfl (by decide) rfl rfl rfl (Nat.le_of_ble_eq_true rfl) d_M_boundary_15 (fun v m15 hv => ?_)
    obtain ⟨rfl, rfl⟩ := hv
    refine jj_if_eq h 23 d_M_boundary_18 (by decide) ⟨by decide, by decide⟩ (fun _ => ?_) (fun q18 => absurd (rfl) q18)
    refine jj_aload_n h d_M_boundary_23 rfl ⟨_, rfl⟩ ?_
    refine jj_iload_n h d_M_boundary_24 rfl ?_
    refine jj_iconst h d_M_boundary_25 ?_
    refine jj_callV h (cM_of (by omega) (by omega)) cv_M_59 (ro_of he (by decide) (by decide)) rfl rfl (by decide) rfl rfl rfl (Nat.le_of_ble_eq_true rfl) d_M_boundary_26 (fun v m26 hv => ?_)
    obtain ⟨rfl, rfl⟩ := hv
    rw [st_row (by decide), h0]
    refine jj_iconst h d_M_boundary_29 ?_
    refine jj_icmp_ne h 48 d_M_boundary_30 (by decide) hk0 ⟨by decide, by decide⟩ (fun q30 => ?_) (fun q30 => ?_)
    · refine jj_iconst h d_M_boundary_48 ?_
      refine jj_goto h 66 d_M_boundary_49 (by decide) ?_
      refine jj_iret h he d_M_boundary_66 ?_
      exact ⟨fun _ => ⟨by unfold bdS; rw [if_neg (fun z => q30 z.1)], rfl⟩, fun z => absurd hE z⟩
    · have hq30 : (gE L e).1 0 = 1 := by omega
      obtain ⟨b1, b2, b3, b4⟩ := c4 hq30
      refine jj_iload_n h d_M_boundary_33 rfl ?_
      refine jj_if_lt h 48 d_M_boundary_34 (by decide) ⟨by omega, by omega⟩ (fun q34 => ?_) (fun q34 => ?_)
      · refine jj_iconst h d_M_boundary_48 ?_
        refine jj_goto h 66 d_M_boundary_49 (by decide) ?_
        refine jj_iret h he d_M_boundary_66 ?_
        exact ⟨fun _ => ⟨by unfold bdS; rw [if_neg (by omega)], rfl⟩, fun z => absurd hE z⟩
      · refine jj_iload_n h d_M_boundary_37 rfl ?_
        refine jj_aload_n h d_M_boundary_38 rfl ⟨_, rfl⟩ ?_
        refine jj_iload_n h d_M_boundary_39 rfl ?_
        refine jj_bipush h d_M_boundary_40 (by decide) ?_
        refine jj_callV h (cM_of (by omega) (by omega)) cv_M_59 (ro_of he (by decide) (by decide)) rfl rfl (by decide) rfl rfl rfl (Nat.le_of_ble_eq_true rfl) d_M_boundary_42 (fun v m42 hv => ?_)
        obtain ⟨rfl, rfl⟩ := hv
        rw [st_row (by decide), b2]
        refine jj_icmp_lt h 52 d_M_boundary_45 (by decide) ⟨by omega, by omega⟩ ⟨by omega, by omega⟩ (fun q45 => ?_) (fun q45 => ?_)
        · refine jj_aload_n h d_M_boundary_52 rfl ⟨_, rfl⟩ ?_
          refine jj_g_M_text h  fl_M_22 d_M_boundary_53 ?_
          refine jj_aload_n h d_M_boundary_56 rfl ⟨_, rfl⟩ ?_
          refine jj_iload_n h d_M_boundary_57 rfl ?_
          refine jj_bipush h d_M_boundary_58 (by decide) ?_
          refine jj_callV h (cM_of (by omega) (by omega)) cv_M_59 (ro_of he (by decide) (by decide)) rfl rfl (by decide) rfl rfl rfl (Nat.le_of_ble_eq_true rfl) d_M_boundary_60 (fun v m60 hv => ?_)
          obtain ⟨rfl, rfl⟩ := hv
          rw [st_row (by decide)]
          refine jj_iload_n h d_M_boundary_63 rfl ?_
          refine jj_iadd h d_M_boundary_64 ?_
          refine jj_iaload (N := 1400) h (by decide) rfl (by decide) (by omega) (by omega) d_M_boundary_65 ?_
          rw [st_row (by decide)]
          refine jj_iret h he d_M_boundary_66 ?_
          refine ⟨fun _ => ⟨?_, rfl⟩, fun z => absurd hE z⟩
          rw [b2] at b4
          have := slc_get (f := mem 187) (p := mem 185 (16 * e + 11)) (e := mem 185 (16 * e + 11) + (gE L e).2.2.2.length) (i := i) (by omega) (by omega)
          rw [b4] at this
          unfold bdS
          rw [if_pos ⟨hq30, by omega, by omega⟩, List.getD_eq_getElem?_getD, this]; rfl
        · refine jj_iconst h d_M_boundary_48 ?_
          refine jj_goto h 66 d_M_boundary_49 (by decide) ?_
          refine jj_iret h he d_M_boundary_66 ?_
          exact ⟨fun _ => ⟨by unfold bdS; rw [if_neg (by omega)], rfl⟩, fun z => absurd hE z⟩
  · refine jj_aload_n h d_M_boundary_0 rfl ⟨_, rfl⟩ ?_
    refine jj_aload_n h d_M_boundary_1 rfl ⟨_, rfl⟩ ?_
    refine jj_iload_n h d_M_boundary_2 rfl ?_
    refine jj_callV h (cM_isEntity h9 her) cv_M_224 (ro_of he (by decide) (by decide)) rfl rfl (by decide) rfl rfl rfl (Nat.le_of_ble_eq_true rfl) d_M_boundary_3 (fun v m3 hv => ?_)
    obtain ⟨rfl, rfl⟩ := hv
    rw [if_neg hE]
    refine jj_if_ne h 13 d_M_boundary_6 (by decide) ⟨by decide, by decide⟩ (fun q6 => absurd ((by decide)) q6) (fun _ => ?_)
    refine jj_iconst h d_M_boundary_9 ?_
    refine jj_goto h 14 d_M_boundary_10 (by decide) ?_
    refine jj_iconst h d_M_boundary_14 ?_
    refine jj_callV h (cM_fails (Or.inr rfl) (Or.inl rfl)) cv_M_227 (ro_of he (by decide) (by decide)) rfl rfl (by decide) rfl rfl rfl (Nat.le_of_ble_eq_true rfl) d_M_boundary_15 (fun v m15 hv => ?_)
    obtain ⟨rfl, rfl⟩ := hv
    refine jj_if_eq h 23 d_M_boundary_18 (by decide) ⟨by decide, by decide⟩ (fun q18 => absurd q18 ((by decide))) (fun _ => ?_)
    refine jj_iconst h d_M_boundary_21 ?_
    refine jj_iret h he d_M_boundary_22 ?_
    exact ⟨fun z => absurd z hE, fun _ => ⟨rfl, rfl⟩⟩
/-- a list written into a row from a place on -/
def wrL (m : mt_M) (r : Nat) (p : Int) : List Int → mt_M
  | [] => m
  | c :: t => wrL (st_ m r p c) r (p + 1) t
theorem wrL_snoc (r : Nat) (c : Int) : ∀ (A : List Int) (m : mt_M) (p : Int), wrL m r p (A ++ [c]) = st_ (wrL m r p A) r (p + A.length) c
  | [], m, p => by show st_ m r p c = st_ m r (p + 0) c; rw [Int.add_zero]
  | a :: t, m, p => by
    show wrL (st_ m r p a) r (p + 1) (t ++ [c]) = st_ (wrL (st_ m r p a) r (p + 1) t) r (p + (t.length + 1 : Nat)) c
    rw [wrL_snoc r c t, show p + 1 + (t.length : Int) = p + ((t.length + 1 : Nat) : Int) by omega]
theorem wrL_row {r r' : Nat} (h : r' ≠ r) : ∀ (A : List Int) (m : mt_M) (p : Int), wrL m r p A r' = m r'
  | [], _, _ => rfl
  | a :: t, m, p => by show wrL (st_ m r p a) r (p + 1) t r' = m r'; rw [wrL_row h t, st_row h]
theorem wrL_out {r : Nat} : ∀ (A : List Int) (m : mt_M) (p z : Int), z < p ∨ p + A.length ≤ z → wrL m r p A r z = m r z
  | [], _, _, _, _ => rfl
  | a :: t, m, p, z, hz => by
    rw [List.length_cons] at hz
    show wrL (st_ m r p a) r (p + 1) t r z = m r z
    rw [wrL_out t _ _ z (by omega), st_ne (by omega)]
theorem wrL_slc {r : Nat} : ∀ (A : List Int) (m : mt_M) (p : Int), slc (wrL m r p A r) p (p + A.length) = A
  | [], _, p => slc_nil (by show p + ((0 : Nat) : Int) ≤ p; omega)
  | a :: t, m, p => by
    rw [List.length_cons, slc_cons (by omega)]
    show wrL (st_ m r p a) r (p + 1) t r p :: slc (wrL (st_ m r p a) r (p + 1) t r) (p + 1) (p + ((t.length + 1 : Nat) : Int)) = a :: t
    have := wrL_slc (r := r) t (st_ m r p a) (p + 1)
    rw [show p + 1 + (t.length : Int) = p + ((t.length + 1 : Nat) : Int) by omega] at this
    rw [this, wrL_out t _ _ p (by omega), st_same]
/-- byte k of a long -/
def bt (v k : Int) : Int := l2i_ (land_ (lshr_ v (8 * k)) 255)
def bts (v n : Int) : List Int := slc (bt v) 0 n
def fdOk (fed n : Int) : Prop := 1 ≤ n ∧ n ≤ 8 ∧ fed + n ≤ 320
theorem cM_feed {G : mt_G} {l : Launch} {mem : mt_M} {v n : Int} (hf0 : 0 ≤ mem 182 1) (hf1 : mem 182 1 ≤ 320) (hn : r32 n) : CT G l y_M_feed c_M_feed 5 (some .boolean) 1 [vr G 182, vl v, vi n] mem (fun x m' => (fdOk (mem 182 1) n → x = some (vi 1) ∧ st_ (wrL (st_ mem 182 0 0) 183 (mem 182 1) (bts v n)) 182 1 (mem 182 1 + n) = m') ∧ (¬ fdOk (mem 182 1) n → x = some (vi 0) ∧ st_ mem 182 0 0 = m')) := by
  obtain ⟨n1, n2⟩ := hn
  refine CT.intro (by decide) rfl (Nat.le_of_ble_eq_true rfl) (fun X h he => ?_)
  have hT : (st_ mem 182 0 0) 182 1 = mem 182 1 := st_ne (by decide)
  generalize hm0 : st_ mem 182 0 0 = m0 at *
  generalize hF : mem 182 1 = F at *
  unfold fdOk at he
  have loop : ∀ (j : Nat) (k : Int), (n - k).toNat = j → 0 ≤ k → k ≤ n → 1 ≤ n → n ≤ 8 → F + n ≤ 320 → JJ G X 0 0 (wrL m0 183 F (slc (bt v) 0 k)) 33 [some (vr G 182), some (vl v), none, some (vi n), some (vi k)] [] := by
    intro j
    induction j with
    | zero =>
      intro k hj hk0 hk1 a1 a2 a3
      have hkn : k = n := by omega
      subst hkn
      have hX : (wrL m0 183 F (slc (bt v) 0 k)) 182 1 = F := by rw [wrL_row (by decide)]; exact hT
      refine jj_iload h d_M_feed_33 rfl ?_
      refine jj_iload_n h d_M_feed_35 rfl ?_
      refine jj_icmp_ge h 69 d_M_feed_36 (by decide) ⟨by omega, by omega⟩ ⟨by omega, by omega⟩ (fun _ => ?_) (fun q36 => absurd (by omega) q36)
      refine jj_aload_n h d_M_feed_69 rfl ⟨_, rfl⟩ ?_
      refine jj_dup h d_M_feed_70 rfl ?_
      refine jj_g_M_fed h  fl_M_47 d_M_feed_71 ?_
      try simp only [hX]
      refine jj_iload_n h d_M_feed_74 rfl ?_
      refine jj_iadd h d_M_feed_75 ?_
      refine jj_p_M_fed h  fl_M_47 d_M_feed_76 ?_
      refine jj_iconst h d_M_feed_79 ?_
      refine jj_zret h he (by omega) d_M_feed_80 ?_
      exact ⟨fun _ => ⟨rfl, rfl⟩, fun z => by omega⟩
    | succ j ih =>
      intro k hj hk0 hk1 a1 a2 a3
      have hX : (wrL m0 183 F (slc (bt v) 0 k)) 182 1 = F := by rw [wrL_row (by decide)]; exact hT
      refine jj_iload h d_M_feed_33 rfl ?_
      refine jj_iload_n h d_M_feed_35 rfl ?_
      refine jj_icmp_ge h 69 d_M_feed_36 (by decide) ⟨by omega, by omega⟩ ⟨by omega, by omega⟩ (fun q36 => absurd q36 (by omega)) (fun _ => ?_)
      refine jj_aload_n h d_M_feed_39 rfl ⟨_, rfl⟩ ?_
      refine jj_g_M_message h  fl_M_7 d_M_feed_40 ?_
      try simp only [hX]
      refine jj_aload_n h d_M_feed_43 rfl ⟨_, rfl⟩ ?_
      refine jj_g_M_fed h  fl_M_47 d_M_feed_44 ?_
      try simp only [hX]
      refine jj_iload h d_M_feed_47 rfl ?_
      refine jj_iadd h d_M_feed_49 ?_
      refine jj_lload_n h d_M_feed_50 rfl ?_
      refine jj_bipush h d_M_feed_51 (by decide) ?_
      refine jj_iload h d_M_feed_53 rfl ?_
      refine jj_imul h d_M_feed_55 ?_
      refine jj_lshr h d_M_feed_56 ?_
      refine jj_ldc2 h (255) d_M_feed_57 wk_M_50 ?_
      refine jj_land h d_M_feed_60 ?_
      refine jj_l2i h d_M_feed_61 ?_
      refine jj_iastore (N := 320) h (by decide) (fun _ => rfl) (by decide) (by omega) (by omega) d_M_feed_62 ?_
      refine jj_iinc h d_M_feed_63 rfl rfl ?_
      refine jj_goto h 33 d_M_feed_66 (by decide) ?_
      have := ih (k + 1) (by omega) (by omega) (by omega) a1 a2 a3
      rw [slc_snoc hk0, wrL_snoc, slc_lenI hk0, show k - 0 = k by omega] at this
      exact this
  refine jj_aload_n h d_M_feed_0 rfl ⟨_, rfl⟩ ?_
  refine jj_iconst h d_M_feed_1 ?_
  refine jj_p_M_thrown h  fl_M_43 d_M_feed_2 ?_
  rw [hm0]
  refine jj_iload_n h d_M_feed_5 rfl ?_
  refine jj_iconst h d_M_feed_6 ?_
  refine jj_icmp_lt h 28 d_M_feed_7 (by decide) ⟨by omega, by omega⟩ ⟨by omega, by omega⟩ (fun q7 => ?_) (fun q7 => ?_)
  · refine jj_iconst h d_M_feed_28 ?_
    refine jj_zret h he (by omega) d_M_feed_29 ?_
    exact ⟨fun z => by omega, fun _ => ⟨rfl, rfl⟩⟩
  · refine jj_iload_n h d_M_feed_10 rfl ?_
    refine jj_bipush h d_M_feed_11 (by decide) ?_
    refine jj_icmp_gt h 28 d_M_feed_13 (by decide) ⟨by omega, by omega⟩ ⟨by omega, by omega⟩ (fun q13 => ?_) (fun q13 => ?_)
    · refine jj_iconst h d_M_feed_28 ?_
      refine jj_zret h he (by omega) d_M_feed_29 ?_
      exact ⟨fun z => by omega, fun _ => ⟨rfl, rfl⟩⟩
    · refine jj_aload_n h d_M_feed_16 rfl ⟨_, rfl⟩ ?_
      refine jj_g_M_fed h  fl_M_47 d_M_feed_17 ?_
      try simp only [hT]
      refine jj_iload_n h d_M_feed_20 rfl ?_
      refine jj_iadd h d_M_feed_21 ?_
      refine jj_sipush h d_M_feed_22 (by decide) ?_
      refine jj_icmp_le h 30 d_M_feed_25 (by decide) ⟨by omega, by omega⟩ ⟨by omega, by omega⟩ (fun q25 => ?_) (fun q25 => ?_)
      · refine jj_iconst h d_M_feed_30 ?_
        refine jj_istore h d_M_feed_31 (Nat.le_of_ble_eq_true rfl) rfl ?_
        exact loop n.toNat 0 (by omega) (by omega) (by omega) (by omega) (by omega) (by omega)
      · refine jj_iconst h d_M_feed_28 ?_
        refine jj_zret h he (by omega) d_M_feed_29 ?_
        exact ⟨fun z => by omega, fun _ => ⟨rfl, rfl⟩⟩
