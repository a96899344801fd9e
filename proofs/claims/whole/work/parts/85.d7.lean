/-! The class: quoted-printable is taken off. -/
theorem qpd_c (n : Nat) (c : Int) (t : List Int) : qpd (n + 1) (c :: t) = if c = 61 then (match hp_ t with | some b => b :: qpd n (t.drop 2) | none => if 0 < lb_ (bb_ t) then qpd n ((bb_ t).drop (lb_ (bb_ t)).toNat) else 61 :: qpd n t) else if bl_ c ∧ (0 < lb_ (bb_ (c :: t)) ∨ bb_ (c :: t) = []) then qpd n (bb_ (c :: t)) else c :: qpd n t := by rw [qpd]; rfl
theorem qpd_nil (n : Nat) : qpd n [] = [] := by cases n <;> rfl
theorem qpd_fuel : ∀ (n m : Nat) (L : List Int), L.length ≤ n → L.length ≤ m → qpd n L = qpd m L
  | n, m, [], _, _ => by rw [qpd_nil, qpd_nil]
  | 0, _, _ :: _, h, _ => by simp at h
  | _ + 1, 0, _ :: _, _, h => by simp at h
  | n + 1, m + 1, c :: t, h1, h2 => by
    rw [List.length_cons] at h1 h2
    have hd : ∀ (k : Nat) (A : List Int), A <:+ t → qpd n (A.drop k) = qpd m (A.drop k) := fun k A hA => by
      have := hA.length_le
      have hk : (A.drop k).length ≤ A.length := by rw [List.length_drop]; omega
      exact qpd_fuel n m _ (by omega) (by omega)
    have h0 : qpd n t = qpd m t := hd 0 t (List.suffix_refl _)
    rw [qpd_c, qpd_c, hd 2 t (List.suffix_refl _), hd _ _ (bb_suf t), h0]
    by_cases hb : bl_ c
    · rw [bb_blk t hb, show qpd n (bb_ t) = qpd m (bb_ t) from hd 0 _ (bb_suf t)]
    · rw [if_neg (c := bl_ c ∧ (0 < lb_ (bb_ (c :: t)) ∨ bb_ (c :: t) = [])) (fun z => hb z.1), if_neg (c := bl_ c ∧ (0 < lb_ (bb_ (c :: t)) ∨ bb_ (c :: t) = [])) (fun z => hb z.1)]
theorem qp_eq {n : Nat} {L : List Int} (h : L.length ≤ n) : qpd n L = qp_ L := qpd_fuel n L.length L h (Nat.le_refl _)
theorem qp_nil : qp_ [] = [] := rfl
theorem qp_other {c : Int} {t : List Int} (h1 : c ≠ 61) (h2 : ¬ bl_ c) : qp_ (c :: t) = c :: qp_ t := by
  show qpd (t.length + 1) (c :: t) = _
  rw [qpd_c, if_neg h1, if_neg (fun z => h2 z.1)]; rfl
theorem qp_hex {t : List Int} {b : Int} (h : hp_ t = some b) : qp_ (61 :: t) = b :: qp_ (t.drop 2) := by
  show qpd (t.length + 1) (61 :: t) = _
  rw [qpd_c, if_pos rfl, h]
  show b :: qpd t.length (t.drop 2) = _
  rw [qp_eq (by rw [List.length_drop]; omega)]
theorem qp_soft {t : List Int} (h : hp_ t = none) (h2 : 0 < lb_ (bb_ t)) : qp_ (61 :: t) = qp_ ((bb_ t).drop (lb_ (bb_ t)).toNat) := by
  show qpd (t.length + 1) (61 :: t) = _
  rw [qpd_c, if_pos rfl, h]
  show (if 0 < lb_ (bb_ t) then qpd t.length ((bb_ t).drop (lb_ (bb_ t)).toNat) else 61 :: qpd t.length t) = _
  rw [if_pos h2, qp_eq (by rw [List.length_drop]; have := (bb_suf t).length_le; omega)]
theorem qp_sign {t : List Int} (h : hp_ t = none) (h2 : ¬ 0 < lb_ (bb_ t)) : qp_ (61 :: t) = 61 :: qp_ t := by
  show qpd (t.length + 1) (61 :: t) = _
  rw [qpd_c, if_pos rfl, h]
  show (if 0 < lb_ (bb_ t) then qpd t.length ((bb_ t).drop (lb_ (bb_ t)).toNat) else 61 :: qpd t.length t) = _
  rw [if_neg h2]; rfl
theorem qp_gone {L : List Int} {c : Int} {t : List Int} (hL : L = c :: t) (hb : bl_ c) (h : 0 < lb_ (bb_ L) ∨ bb_ L = []) : qp_ L = qp_ (bb_ L) := by
  subst hL
  show qpd (t.length + 1) (c :: t) = _
  have h61 : c ≠ 61 := by rcases hb with hb | hb <;> omega
  rw [qpd_c, if_neg h61, if_pos ⟨hb, h⟩, qp_eq]
  rw [bb_blk t hb]; exact (bb_suf t).length_le
theorem qp_stay : ∀ (n : Nat) (f : Int → Int) (q e : Int), (e - q).toNat = n → q ≤ e → ¬ (0 < lb_ (bb_ (slc f q e)) ∨ bb_ (slc f q e) = []) → qp_ (slc f q e) = slc f q (e - (bb_ (slc f q e)).length) ++ qp_ (bb_ (slc f q e))
  | 0, f, q, e, h0, h1, h => absurd (Or.inr (by rw [slc_nil (by omega)]; rfl)) h
  | n + 1, f, q, e, h0, h1, h => by
    have hcs : slc f q e = f q :: slc f (q + 1) e := slc_cons (by omega)
    by_cases hb : bl_ (f q)
    · have e1 : bb_ (slc f q e) = bb_ (slc f (q + 1) e) := by rw [hcs, bb_blk _ hb]
      rw [e1] at h
      have ih := qp_stay n f (q + 1) e (by omega) (by omega) h
      have hl := (bb_suf (slc f (q + 1) e)).length_le
      rw [slc_len] at hl
      rw [e1]
      have h61 : f q ≠ 61 := by rcases hb with hb | hb <;> omega
      have e2 : qp_ (slc f q e) = f q :: qp_ (slc f (q + 1) e) := by
        rw [hcs]
        show qpd ((slc f (q + 1) e).length + 1) (f q :: slc f (q + 1) e) = _
        rw [qpd_c, if_neg h61, bb_blk _ hb, if_neg (fun z => h z.2)]; rfl
      rw [e2, ih, slc_cons (f := f) (p := q) (e := e - _) (by omega)]
      rfl
    · have e1 : bb_ (slc f q e) = slc f q e := by rw [hcs, bb_, if_neg hb]
      rw [e1, slc_lenI h1, slc_nil (f := f) (p := q) (e := e - (e - q)) (by omega)]
      rfl
/-- what a step of the decoder does: out is put, q' comes next -/
def qs_ (mem : mt_M) (q e : Int) (v : Option Value) (m' : mt_M) : Prop := ∃ (out : List Int) (q' : Int), v = some (vi q') ∧ bL_ mem 5 out = m' ∧ q < q' ∧ q' ≤ e ∧ (out.length : Int) ≤ q' - q ∧ (∀ c ∈ out, 0 ≤ c ∧ c ≤ 255) ∧ qp_ (slc (mem 11) q e) = out ++ qp_ (slc (mem 11) q' e)
theorem cD_decodeEqualSign {G : mt_G} {l : Launch} {mem : mt_M} {q e : Int} (hw : bw_ mem 3) (h5 : 0 ≤ mem 5 1 ∧ mem 5 1 ≤ 320) (q0 : 0 ≤ q) (q1 : q < e) (e1 : e ≤ mem 3 1) (h61 : mem 11 q = 61) : CT G l y_D_decodeEqualSign c_D_decodeEqualSign 5 (some .int) 3 [vr G 19, vi q, vi e] mem (qs_ mem q e) := by
  have hsz := hw.2.2.1
  have hl9 : ln_ (3 + 8) = 320 := rfl
  refine CT.intro (by decide) rfl (Nat.le_of_ble_eq_true rfl) (fun X h he => ?_)
  have hcs : slc (mem 11) q e = 61 :: slc (mem 11) (q + 1) e := by rw [slc_cons (by omega), h61]
  have hz := slc_suf (f := mem 11) (a := q + 1) (s := e) (by omega) (bb_suf (slc (mem 11) (q + 1) e))
  have hlb := lb_b (bb_ (slc (mem 11) (q + 1) e))
  have tail : hp_ (slc (mem 11) (q + 1) e) = none → ∀ x y, JJ G X 0 0 mem 63 [some (vr G 19), some (vi q), some (vi e), x, y] [] := by
    intro hh x y
    generalize hB : bb_ (slc (mem 11) (q + 1) e) = B at *
    refine jj_aload_n h d_D_decodeEqualSign_63 rfl ⟨_, rfl⟩ ?_
    refine jj_g_D_source h  fl_D_9 d_D_decodeEqualSign_64 ?_
    refine jj_iload_n h d_D_decodeEqualSign_67 rfl ?_
    refine jj_iconst h d_D_decodeEqualSign_68 ?_
    refine jj_iadd h d_D_decodeEqualSign_69 ?_
    refine jj_iload_n h d_D_decodeEqualSign_70 rfl ?_
    refine jj_callV h (cB_skipBlanks hw (by omega) (by omega) e1) cv_D_78 (ro_of he (by first | decide | omega) (by decide)) rfl rfl (by unfold mt_N; omega) (ce_B (by omega)) rfl rfl (Nat.le_of_ble_eq_true rfl) d_D_decodeEqualSign_71 (fun v m71 hv => ?_)
    obtain ⟨rfl, rfl⟩ := hv
    show JJ G X 0 0 mem _ _ (vi (e - (bb_ (slc (mem 11) (q + 1) e)).length) :: _)
    rw [hB]
    refine jj_istore_n h d_D_decodeEqualSign_74 (Nat.le_of_ble_eq_true rfl) rfl ?_
    refine jj_aload_n h d_D_decodeEqualSign_75 rfl ⟨_, rfl⟩ ?_
    refine jj_g_D_source h  fl_D_9 d_D_decodeEqualSign_76 ?_
    refine jj_iload_n h d_D_decodeEqualSign_79 rfl ?_
    refine jj_iload_n h d_D_decodeEqualSign_80 rfl ?_
    refine jj_callV h (cB_lineEndSize hw (by omega) (by omega) e1) cv_D_81 (ro_of he (by first | decide | omega) (by decide)) rfl rfl (by unfold mt_N; omega) (ce_B (by omega)) rfl rfl (Nat.le_of_ble_eq_true rfl) d_D_decodeEqualSign_81 (fun v m81 hv => ?_)
    obtain ⟨rfl, rfl⟩ := hv
    show JJ G X 0 0 mem _ _ (vi (lb_ (slc (mem 11) (e - B.length) e)) :: _)
    rw [hz.1]
    refine jj_istore h d_D_decodeEqualSign_84 (Nat.le_of_ble_eq_true rfl) rfl ?_
    refine jj_iload h d_D_decodeEqualSign_86 rfl ?_
    refine jj_if_le h 96 d_D_decodeEqualSign_88 (by decide) ⟨by omega, by omega⟩ (fun q88 => ?_) (fun q88 => ?_)
    · refine jj_aload_n h d_D_decodeEqualSign_96 rfl ⟨_, rfl⟩ ?_
      refine jj_g_D_contents h  fl_D_15 d_D_decodeEqualSign_97 ?_
      refine jj_bipush h d_D_decodeEqualSign_100 (by decide) ?_
      refine jj_callV h (cB_put ⟨by decide, by decide⟩ h5.1 h5.2) cv_D_60 (ro_of he (by first | decide | omega) (by decide)) rfl rfl (by unfold mt_N; omega) (ce_B (by omega)) rfl rfl (Nat.le_of_ble_eq_true rfl) d_D_decodeEqualSign_102 (fun v m102 hv => ?_)
      obtain ⟨rfl, rfl⟩ := hv
      refine jj_iload_n h d_D_decodeEqualSign_105 rfl ?_
      refine jj_iconst h d_D_decodeEqualSign_106 ?_
      refine jj_iadd h d_D_decodeEqualSign_107 ?_
      refine jj_iret h he d_D_decodeEqualSign_108 ?_
      exact ⟨[61], q + 1, rfl, rfl, by omega, by omega, by show ((1 : Nat) : Int) ≤ _; omega, fun c hc => by rw [List.mem_singleton.mp hc]; decide, by rw [hcs, qp_sign hh (by rw [hB]; omega)]; rfl⟩
    · refine jj_iload_n h d_D_decodeEqualSign_91 rfl ?_
      refine jj_iload h d_D_decodeEqualSign_92 rfl ?_
      refine jj_iadd h d_D_decodeEqualSign_94 ?_
      refine jj_iret h he d_D_decodeEqualSign_95 ?_
      have e9 := slc_drop (f := mem 11) (p := e - B.length) (e := e) (k := lb_ B) hlb.1 (by omega)
      rw [hz.1] at e9
      exact ⟨[], e - B.length + lb_ B, rfl, rfl, by omega, by omega, by show ((0 : Nat) : Int) ≤ _; omega, fun c hc => (by cases hc), by rw [hcs, qp_soft hh (by rw [hB]; omega), hB, e9]; rfl⟩
  by_cases g : q + 2 < e
  · have h4 : 0 ≤ mem 11 (q + 1) ∧ mem 11 (q + 1) ≤ 255 := hw.2.2.2 (q + 1) (by omega) (by omega)
    have h5' : 0 ≤ mem 11 (q + 2) ∧ mem 11 (q + 2) ≤ 255 := hw.2.2.2 (q + 2) (by omega) (by omega)
    have x4 := hx_b (mem 11 (q + 1))
    have x5 := hx_b (mem 11 (q + 2))
    have hs2 : slc (mem 11) (q + 1) e = mem 11 (q + 1) :: mem 11 (q + 2) :: slc (mem 11) (q + 3) e := by rw [slc_cons (by omega : q + 1 < e), show q + 1 + 1 = q + 2 by omega, slc_cons (by omega : q + 2 < e), show q + 2 + 1 = q + 3 by omega]
    have hh : hp_ (slc (mem 11) (q + 1) e) = if 0 ≤ hx_ (mem 11 (q + 1)) ∧ 0 ≤ hx_ (mem 11 (q + 2)) then some (16 * hx_ (mem 11 (q + 1)) + hx_ (mem 11 (q + 2))) else none := by rw [hs2]; rfl
    generalize hH : hx_ (mem 11 (q + 1)) = a at *
    generalize hK : hx_ (mem 11 (q + 2)) = b at *
    refine jj_iload_n h d_D_decodeEqualSign_0 rfl ?_
    refine jj_iconst h d_D_decodeEqualSign_1 ?_
    refine jj_iadd h d_D_decodeEqualSign_2 ?_
    refine jj_iload_n h d_D_decodeEqualSign_3 rfl ?_
    refine jj_icmp_ge h 63 d_D_decodeEqualSign_4 (by decide) ⟨by omega, by omega⟩ ⟨by omega, by omega⟩ (fun q4 => absurd q4 (by omega)) (fun _ => ?_)
    refine jj_aload_n h d_D_decodeEqualSign_7 rfl ⟨_, rfl⟩ ?_
    refine jj_g_D_source h  fl_D_9 d_D_decodeEqualSign_8 ?_
    refine jj_iload_n h d_D_decodeEqualSign_11 rfl ?_
    refine jj_iconst h d_D_decodeEqualSign_12 ?_
    refine jj_iadd h d_D_decodeEqualSign_13 ?_
    refine jj_callV h (cB_in hw (by omega) (by omega)) cv_D_52 (ro_of he (by first | decide | omega) (by decide)) rfl rfl (by unfold mt_N; omega) (ce_B (by omega)) rfl rfl (Nat.le_of_ble_eq_true rfl) d_D_decodeEqualSign_14 (fun v m14 hv => ?_)
    obtain ⟨rfl, rfl⟩ := hv
    show JJ G X 0 0 mem _ _ (vi (mem 11 (q + 1)) :: _)
    refine jj_callN h (cX_hexDigit ⟨by omega, by omega⟩) cv_D_75 (ro_of he (by first | decide | omega) (by decide)) rfl rfl rfl (Nat.le_of_ble_eq_true rfl) d_D_decodeEqualSign_17 (fun v m17 hv => ?_)
    obtain ⟨rfl, rfl⟩ := hv
    rw [hH]
    refine jj_istore_n h d_D_decodeEqualSign_20 (Nat.le_of_ble_eq_true rfl) rfl ?_
    refine jj_aload_n h d_D_decodeEqualSign_21 rfl ⟨_, rfl⟩ ?_
    refine jj_g_D_source h  fl_D_9 d_D_decodeEqualSign_22 ?_
    refine jj_iload_n h d_D_decodeEqualSign_25 rfl ?_
    refine jj_iconst h d_D_decodeEqualSign_26 ?_
    refine jj_iadd h d_D_decodeEqualSign_27 ?_
    refine jj_callV h (cB_in hw (by omega) (by omega)) cv_D_52 (ro_of he (by first | decide | omega) (by decide)) rfl rfl (by unfold mt_N; omega) (ce_B (by omega)) rfl rfl (Nat.le_of_ble_eq_true rfl) d_D_decodeEqualSign_28 (fun v m28 hv => ?_)
    obtain ⟨rfl, rfl⟩ := hv
    show JJ G X 0 0 mem _ _ (vi (mem 11 (q + 2)) :: _)
    refine jj_callN h (cX_hexDigit ⟨by omega, by omega⟩) cv_D_75 (ro_of he (by first | decide | omega) (by decide)) rfl rfl rfl (Nat.le_of_ble_eq_true rfl) d_D_decodeEqualSign_31 (fun v m31 hv => ?_)
    obtain ⟨rfl, rfl⟩ := hv
    rw [hK]
    refine jj_istore h d_D_decodeEqualSign_34 (Nat.le_of_ble_eq_true rfl) rfl ?_
    refine jj_iload_n h d_D_decodeEqualSign_36 rfl ?_
    refine jj_if_lt h 63 d_D_decodeEqualSign_37 (by decide) ⟨by omega, by omega⟩ (fun q37 => ?_) (fun q37 => ?_)
    · exact tail (by rw [hh, if_neg (by omega)]) _ _
    · refine jj_iload h d_D_decodeEqualSign_40 rfl ?_
      refine jj_if_lt h 63 d_D_decodeEqualSign_42 (by decide) ⟨by omega, by omega⟩ (fun q42 => ?_) (fun q42 => ?_)
      · exact tail (by rw [hh, if_neg (by omega)]) _ _
      · refine jj_aload_n h d_D_decodeEqualSign_45 rfl ⟨_, rfl⟩ ?_
        refine jj_g_D_contents h  fl_D_15 d_D_decodeEqualSign_46 ?_
        refine jj_bipush h d_D_decodeEqualSign_49 (by decide) ?_
        refine jj_iload_n h d_D_decodeEqualSign_51 rfl ?_
        refine jj_imul h d_D_decodeEqualSign_52 ?_
        refine jj_iload h d_D_decodeEqualSign_53 rfl ?_
        refine jj_iadd h d_D_decodeEqualSign_55 ?_
        refine jj_callV h (cB_put ⟨by decide, by decide⟩ h5.1 h5.2) cv_D_60 (ro_of he (by first | decide | omega) (by decide)) rfl rfl (by unfold mt_N; omega) (ce_B (by omega)) rfl rfl (Nat.le_of_ble_eq_true rfl) d_D_decodeEqualSign_56 (fun v m56 hv => ?_)
        obtain ⟨rfl, rfl⟩ := hv
        refine jj_iload_n h d_D_decodeEqualSign_59 rfl ?_
        refine jj_iconst h d_D_decodeEqualSign_60 ?_
        refine jj_iadd h d_D_decodeEqualSign_61 ?_
        refine jj_iret h he d_D_decodeEqualSign_62 ?_
        rw [if_pos (by omega)] at hh
        refine ⟨[16 * a + b], q + 3, rfl, rfl, by omega, by omega, by show ((1 : Nat) : Int) ≤ _; omega, fun c hc => by rw [List.mem_singleton.mp hc]; omega, ?_⟩
        rw [hcs, qp_hex hh, hs2]
        rfl
  · have hh : hp_ (slc (mem 11) (q + 1) e) = none := by
      by_cases g1 : q + 1 < e
      · rw [slc_cons g1, slc_nil (by omega)]; rfl
      · rw [slc_nil (by omega)]; rfl
    refine jj_iload_n h d_D_decodeEqualSign_0 rfl ?_
    refine jj_iconst h d_D_decodeEqualSign_1 ?_
    refine jj_iadd h d_D_decodeEqualSign_2 ?_
    refine jj_iload_n h d_D_decodeEqualSign_3 rfl ?_
    refine jj_icmp_ge h 63 d_D_decodeEqualSign_4 (by decide) ⟨by omega, by omega⟩ ⟨by omega, by omega⟩ (fun _ => ?_) (fun q4 => absurd (by omega) q4)
    exact tail hh _ _
theorem cD_decodeBlanks {G : mt_G} {l : Launch} {mem : mt_M} {q e : Int} (hw : bw_ mem 3) (h5 : 0 ≤ mem 5 1 ∧ mem 5 1 ≤ 320) (q0 : 0 ≤ q) (q1 : q < e) (e1 : e ≤ mem 3 1) (hb : bl_ (mem 11 q)) : CT G l y_D_decodeBlanks c_D_decodeBlanks 4 (some .int) 3 [vr G 19, vi q, vi e] mem (qs_ mem q e) := by
  have hsz := hw.2.2.1
  have hl9 : ln_ (3 + 8) = 320 := rfl
  refine CT.intro (by decide) rfl (Nat.le_of_ble_eq_true rfl) (fun X h he => ?_)
  have hcs : slc (mem 11) q e = mem 11 q :: slc (mem 11) (q + 1) e := slc_cons (by omega)
  have hz := slc_suf (f := mem 11) (a := q) (s := e) (by omega) (bb_suf (slc (mem 11) q e))
  have hlb := lb_b (bb_ (slc (mem 11) q e))
  have hl1 : (bb_ (slc (mem 11) q e)).length ≤ (slc (mem 11) (q + 1) e).length := by rw [hcs, bb_blk _ hb]; exact (bb_suf _).length_le
  rw [slc_len] at hl1
  have hst := qp_stay _ (mem 11) q e rfl (by omega)
  have hgo := qp_gone hcs hb
  have hby : ∀ c ∈ slc (mem 11) q (e - (bb_ (slc (mem 11) q e)).length), 0 ≤ c ∧ c ≤ 255 := slc_by (fun i i0 i1 => hw.2.2.2 i (by omega) (by omega))
  have hln : ((slc (mem 11) q (e - (bb_ (slc (mem 11) q e)).length)).length : Int) = e - (bb_ (slc (mem 11) q e)).length - q := slc_lenI (by omega)
  generalize hB : bb_ (slc (mem 11) q e) = B at *
  have hBn : B = [] ↔ e - (B.length : Int) = e := ⟨fun z => by rw [z]; simp, fun z => List.length_eq_zero_iff.mp (by omega)⟩
  have fin : (0 < lb_ B ∨ B = []) → qs_ mem q e (some (vi (e - B.length))) mem := fun z => ⟨[], e - B.length, rfl, rfl, by omega, by omega, by show ((0 : Nat) : Int) ≤ _; omega, fun c hc => (by cases hc), by rw [hgo z, hz.1]; rfl⟩
  refine jj_aload_n h d_D_decodeBlanks_0 rfl ⟨_, rfl⟩ ?_
  refine jj_g_D_source h  fl_D_9 d_D_decodeBlanks_1 ?_
  refine jj_iload_n h d_D_decodeBlanks_4 rfl ?_
  refine jj_iload_n h d_D_decodeBlanks_5 rfl ?_
  refine jj_callV h (cB_skipBlanks hw (by omega) (by omega) e1) cv_D_78 (ro_of he (by first | decide | omega) (by decide)) rfl rfl (by unfold mt_N; omega) (ce_B (by omega)) rfl rfl (Nat.le_of_ble_eq_true rfl) d_D_decodeBlanks_6 (fun v m6 hv => ?_)
  obtain ⟨rfl, rfl⟩ := hv
  show JJ G X 0 0 mem _ _ (vi (e - (bb_ (slc (mem 11) q e)).length) :: _)
  rw [hB]
  refine jj_istore_n h d_D_decodeBlanks_9 (Nat.le_of_ble_eq_true rfl) rfl ?_
  refine jj_iload_n h d_D_decodeBlanks_10 rfl ?_
  refine jj_iload_n h d_D_decodeBlanks_11 rfl ?_
  refine jj_icmp_ge h 40 d_D_decodeBlanks_12 (by decide) ⟨by omega, by omega⟩ ⟨by omega, by omega⟩ (fun q12 => ?_) (fun q12 => ?_)
  · refine jj_iload_n h d_D_decodeBlanks_40 rfl ?_
    refine jj_iret h he d_D_decodeBlanks_41 ?_
    exact fin (Or.inr (hBn.mpr (by omega)))
  · refine jj_aload_n h d_D_decodeBlanks_15 rfl ⟨_, rfl⟩ ?_
    refine jj_g_D_source h  fl_D_9 d_D_decodeBlanks_16 ?_
    refine jj_iload_n h d_D_decodeBlanks_19 rfl ?_
    refine jj_iload_n h d_D_decodeBlanks_20 rfl ?_
    refine jj_callV h (cB_lineEndSize hw (by omega) (by omega) e1) cv_D_81 (ro_of he (by first | decide | omega) (by decide)) rfl rfl (by unfold mt_N; omega) (ce_B (by omega)) rfl rfl (Nat.le_of_ble_eq_true rfl) d_D_decodeBlanks_21 (fun v m21 hv => ?_)
    obtain ⟨rfl, rfl⟩ := hv
    show JJ G X 0 0 mem _ _ (vi (lb_ (slc (mem 11) (e - B.length) e)) :: _)
    rw [hz.1]
    refine jj_if_ne h 40 d_D_decodeBlanks_24 (by decide) ⟨by omega, by omega⟩ (fun q24 => ?_) (fun q24 => ?_)
    · refine jj_iload_n h d_D_decodeBlanks_40 rfl ?_
      refine jj_iret h he d_D_decodeBlanks_41 ?_
      exact fin (Or.inl (by omega))
    · refine jj_aload_n h d_D_decodeBlanks_27 rfl ⟨_, rfl⟩ ?_
      refine jj_g_D_contents h  fl_D_15 d_D_decodeBlanks_28 ?_
      refine jj_aload_n h d_D_decodeBlanks_31 rfl ⟨_, rfl⟩ ?_
      refine jj_g_D_source h  fl_D_9 d_D_decodeBlanks_32 ?_
      refine jj_iload_n h d_D_decodeBlanks_35 rfl ?_
      refine jj_iload_n h d_D_decodeBlanks_36 rfl ?_
      refine jj_callV h (cB_putRange (r := 5) ⟨by decide, by decide⟩ hw (by decide) h5.1 h5.2 q0 (by omega) (by omega)) cv_D_45 (ro_of he (by first | decide | omega) (by decide)) rfl rfl (by unfold mt_N; omega) (ce_B (by omega)) rfl rfl (Nat.le_of_ble_eq_true rfl) d_D_decodeBlanks_37 (fun v m37 hv => ?_)
      obtain ⟨rfl, rfl⟩ := hv
      refine jj_iload_n h d_D_decodeBlanks_40 rfl ?_
      refine jj_iret h he d_D_decodeBlanks_41 ?_
      refine ⟨slc (mem 11) q (e - B.length), e - B.length, rfl, rfl, by omega, by omega, by omega, hby, ?_⟩
      rw [hst (fun z => by rcases z with z | z; omega; have := hBn.mp z; omega), hz.1]
theorem cD_decodeQuoted {G : mt_G} {l : Launch} {mem : mt_M} {p e : Int} (hw : bw_ mem 3) (h5 : bw_ mem 5) (p0 : 0 ≤ p) (p1 : p ≤ e) (e1 : e ≤ mem 3 1) (hf : mem 5 1 + (e - p) ≤ 320) : CT G l y_D_decodeQuotedPrintable c_D_decodeQuotedPrintable 6 none 4 [vr G 19, vi p, vi e] mem (fun v m' => v = none ∧ bL_ mem 5 (qp_ (slc (mem 11) p e)) = m' ∧ ((qp_ (slc (mem 11) p e)).length : Int) ≤ e - p) := by
  have hsz := hw.2.2.1
  have hl9 : ln_ (3 + 8) = 320 := rfl
  have hl5 : ln_ (5 + 8) = 320 := rfl
  have h50 := h5.2.1
  refine CT.intro (by decide) rfl (Nat.le_of_ble_eq_true rfl) (fun X h he => ?_)
  generalize hD : qp_ (slc (mem 11) p e) = D at *
  have loop : ∀ (n : Nat) (q t : Int) (out : List Int) (x : Option Value), (e - q).toNat ≤ n → p ≤ q → q ≤ e → 0 ≤ t → t ≤ q - p → (out.length : Int) ≤ q - p → D = out ++ qp_ (slc (mem 11) q e) → JJ G X 0 0 (bL_ mem 5 out) 5 [some (vr G 19), some (vi p), some (vi e), some (vi q), some (vi t), x] [] := by
    intro n
    induction n with
    | zero =>
      intro q t out x k1 k2 k3 k4 k5 k6 k7
      rw [slc_nil (by omega), qp_nil, List.append_nil] at k7
      subst k7
      refine jj_iload h d_D_decodeQuotedPrintable_5 rfl ?_
      refine jj_sipush h d_D_decodeQuotedPrintable_7 (by decide) ?_
      refine jj_icmp_ge h 81 d_D_decodeQuotedPrintable_10 (by decide) ⟨by omega, by omega⟩ ⟨by omega, by omega⟩ (fun q10 => ?_) (fun q10 => ?_)
      · refine jj_vret h he d_D_decodeQuotedPrintable_81 ?_
        exact ⟨rfl, rfl, by omega⟩
      · refine jj_iload_n h d_D_decodeQuotedPrintable_13 rfl ?_
        refine jj_iload_n h d_D_decodeQuotedPrintable_14 rfl ?_
        refine jj_icmp_ge h 81 d_D_decodeQuotedPrintable_15 (by decide) ⟨by omega, by omega⟩ ⟨by omega, by omega⟩ (fun _ => ?_) (fun q15 => absurd (by omega) q15)
        refine jj_vret h he d_D_decodeQuotedPrintable_81 ?_
        exact ⟨rfl, rfl, by omega⟩
    | succ n ih =>
      intro q t out x k1 k2 k3 k4 k5 k6 k7
      by_cases hq : e ≤ q
      · rw [slc_nil (by omega), qp_nil, List.append_nil] at k7
        subst k7
        refine jj_iload h d_D_decodeQuotedPrintable_5 rfl ?_
        refine jj_sipush h d_D_decodeQuotedPrintable_7 (by decide) ?_
        refine jj_icmp_ge h 81 d_D_decodeQuotedPrintable_10 (by decide) ⟨by omega, by omega⟩ ⟨by omega, by omega⟩ (fun q10 => ?_) (fun q10 => ?_)
        · refine jj_vret h he d_D_decodeQuotedPrintable_81 ?_
          exact ⟨rfl, rfl, by omega⟩
        · refine jj_iload_n h d_D_decodeQuotedPrintable_13 rfl ?_
          refine jj_iload_n h d_D_decodeQuotedPrintable_14 rfl ?_
          refine jj_icmp_ge h 81 d_D_decodeQuotedPrintable_15 (by decide) ⟨by omega, by omega⟩ ⟨by omega, by omega⟩ (fun _ => ?_) (fun q15 => absurd (by omega) q15)
          refine jj_vret h he d_D_decodeQuotedPrintable_81 ?_
          exact ⟨rfl, rfl, by omega⟩
      obtain ⟨f1, f2, f3, f4⟩ := bL_fit (r := 5) out mem h50 (by rw [hl5]; omega)
      have r3 : bL_ mem 5 out 3 = mem 3 := bL_row (by decide) (by decide) _ _
      have r11 : bL_ mem 5 out 11 = mem 11 := bL_row (by decide) (by decide) _ _
      have hwm : bw_ (bL_ mem 5 out) 3 := hw.mov r3 r11
      have hm5 : 0 ≤ bL_ mem 5 out 5 1 ∧ bL_ mem 5 out 5 1 ≤ 320 := by omega
      have hby : 0 ≤ mem 11 q ∧ mem 11 q ≤ 255 := hw.2.2.2 q (by omega) (by omega)
      have hcs : slc (mem 11) q e = mem 11 q :: slc (mem 11) (q + 1) e := slc_cons (by omega)
      have go : ∀ (m' : mt_M) (v : Option Value), qs_ (bL_ mem 5 out) q e v m' → ∃ q' out', v = some (vi q') ∧ m' = bL_ mem 5 out' ∧ q < q' ∧ q' ≤ e ∧ (out'.length : Int) ≤ q' - p ∧ D = out' ++ qp_ (slc (mem 11) q' e) := by
        rintro m' v ⟨o, q', g1, g2, g3, g4, g5, g6, g7⟩
        rw [r11] at g7
        refine ⟨q', out ++ o, g1, by rw [bL_app]; exact g2.symm, g3, g4, by rw [List.length_append]; omega, by rw [k7, g7, List.append_assoc]⟩
      by_cases c61 : mem 11 q = 61
      · refine jj_iload h d_D_decodeQuotedPrintable_5 rfl ?_
        refine jj_sipush h d_D_decodeQuotedPrintable_7 (by decide) ?_
        refine jj_icmp_ge h 81 d_D_decodeQuotedPrintable_10 (by decide) ⟨by omega, by omega⟩ ⟨by omega, by omega⟩ (fun q10 => absurd q10 (by omega)) (fun _ => ?_)
        refine jj_iload_n h d_D_decodeQuotedPrintable_13 rfl ?_
        refine jj_iload_n h d_D_decodeQuotedPrintable_14 rfl ?_
        refine jj_icmp_ge h 81 d_D_decodeQuotedPrintable_15 (by decide) ⟨by omega, by omega⟩ ⟨by omega, by omega⟩ (fun q15 => absurd q15 (by omega)) (fun _ => ?_)
        refine jj_aload_n h d_D_decodeQuotedPrintable_18 rfl ⟨_, rfl⟩ ?_
        refine jj_g_D_source h  fl_D_9 d_D_decodeQuotedPrintable_19 ?_
        refine jj_iload_n h d_D_decodeQuotedPrintable_22 rfl ?_
        refine jj_callV h (cB_in hwm (by omega) (by rw [r3]; omega)) cv_D_52 (ro_of he (by first | decide | omega) (by decide)) rfl rfl (by unfold mt_N; omega) (ce_B (by omega)) rfl rfl (Nat.le_of_ble_eq_true rfl) d_D_decodeQuotedPrintable_23 (fun v m23 hv => ?_)
        obtain ⟨rfl, rfl⟩ := hv
        show JJ G X 0 0 (bL_ mem 5 out) _ _ (vi (bL_ mem 5 out 11 q) :: _)
        rw [r11]
        refine jj_istore h d_D_decodeQuotedPrintable_26 (Nat.le_of_ble_eq_true rfl) rfl ?_
        refine jj_iload h d_D_decodeQuotedPrintable_28 rfl ?_
        refine jj_bipush h d_D_decodeQuotedPrintable_30 (by decide) ?_
        refine jj_icmp_ne h 45 d_D_decodeQuotedPrintable_32 (by decide) ⟨by omega, by omega⟩ ⟨by omega, by omega⟩ (fun q32 => absurd (c61) q32) (fun _ => ?_)
        refine jj_aload_n h d_D_decodeQuotedPrintable_35 rfl ⟨_, rfl⟩ ?_
        refine jj_iload_n h d_D_decodeQuotedPrintable_36 rfl ?_
        refine jj_iload_n h d_D_decodeQuotedPrintable_37 rfl ?_
        refine jj_callV h (cD_decodeEqualSign hwm hm5 (by omega) (by omega) (by rw [r3]; exact e1) (by rw [r11]; exact c61)) cv_D_64 (ro_of he (by first | decide | omega) (by decide)) rfl rfl (by decide) rfl rfl rfl (Nat.le_of_ble_eq_true rfl) d_D_decodeQuotedPrintable_38 (fun v m38 hv => ?_)
        obtain ⟨q', out', rfl, rfl, g3, g4, g5, g6⟩ := go _ _ hv
        refine jj_istore_n h d_D_decodeQuotedPrintable_41 (Nat.le_of_ble_eq_true rfl) rfl ?_
        refine jj_goto h 75 d_D_decodeQuotedPrintable_42 (by decide) ?_
        refine jj_iinc h d_D_decodeQuotedPrintable_75 rfl rfl ?_
        refine jj_goto h 5 d_D_decodeQuotedPrintable_78 (by decide) ?_
        exact ih q' (t + 1) out' _ (by omega) (by omega) g4 (by omega) (by omega) g5 g6
      by_cases hb : bl_ (mem 11 q)
      · refine jj_iload h d_D_decodeQuotedPrintable_5 rfl ?_
        refine jj_sipush h d_D_decodeQuotedPrintable_7 (by decide) ?_
        refine jj_icmp_ge h 81 d_D_decodeQuotedPrintable_10 (by decide) ⟨by omega, by omega⟩ ⟨by omega, by omega⟩ (fun q10 => absurd q10 (by omega)) (fun _ => ?_)
        refine jj_iload_n h d_D_decodeQuotedPrintable_13 rfl ?_
        refine jj_iload_n h d_D_decodeQuotedPrintable_14 rfl ?_
        refine jj_icmp_ge h 81 d_D_decodeQuotedPrintable_15 (by decide) ⟨by omega, by omega⟩ ⟨by omega, by omega⟩ (fun q15 => absurd q15 (by omega)) (fun _ => ?_)
        refine jj_aload_n h d_D_decodeQuotedPrintable_18 rfl ⟨_, rfl⟩ ?_
        refine jj_g_D_source h  fl_D_9 d_D_decodeQuotedPrintable_19 ?_
        refine jj_iload_n h d_D_decodeQuotedPrintable_22 rfl ?_
        refine jj_callV h (cB_in hwm (by omega) (by rw [r3]; omega)) cv_D_52 (ro_of he (by first | decide | omega) (by decide)) rfl rfl (by unfold mt_N; omega) (ce_B (by omega)) rfl rfl (Nat.le_of_ble_eq_true rfl) d_D_decodeQuotedPrintable_23 (fun v m23 hv => ?_)
        obtain ⟨rfl, rfl⟩ := hv
        show JJ G X 0 0 (bL_ mem 5 out) _ _ (vi (bL_ mem 5 out 11 q) :: _)
        rw [r11]
        refine jj_istore h d_D_decodeQuotedPrintable_26 (Nat.le_of_ble_eq_true rfl) rfl ?_
        refine jj_iload h d_D_decodeQuotedPrintable_28 rfl ?_
        refine jj_bipush h d_D_decodeQuotedPrintable_30 (by decide) ?_
        refine jj_icmp_ne h 45 d_D_decodeQuotedPrintable_32 (by decide) ⟨by omega, by omega⟩ ⟨by omega, by omega⟩ (fun _ => ?_) (fun q32 => absurd q32 (c61))
        refine jj_iload h d_D_decodeQuotedPrintable_45 rfl ?_
        refine jj_callN h (cX_isBlank ⟨by omega, by omega⟩) cv_D_68 (ro_of he (by first | decide | omega) (by decide)) rfl rfl rfl (Nat.le_of_ble_eq_true rfl) d_D_decodeQuotedPrintable_47 (fun v m47 hv => ?_)
        obtain ⟨rfl, rfl⟩ := hv
        rw [if_pos hb]
        refine jj_if_eq h 63 d_D_decodeQuotedPrintable_50 (by decide) ⟨by omega, by omega⟩ (fun q50 => absurd q50 (by omega)) (fun _ => ?_)
        refine jj_aload_n h d_D_decodeQuotedPrintable_53 rfl ⟨_, rfl⟩ ?_
        refine jj_iload_n h d_D_decodeQuotedPrintable_54 rfl ?_
        refine jj_iload_n h d_D_decodeQuotedPrintable_55 rfl ?_
        refine jj_callV h (cD_decodeBlanks hwm hm5 (by omega) (by omega) (by rw [r3]; exact e1) (by rw [r11]; exact hb)) cv_D_72 (ro_of he (by first | decide | omega) (by decide)) rfl rfl (by decide) rfl rfl rfl (Nat.le_of_ble_eq_true rfl) d_D_decodeQuotedPrintable_56 (fun v m56 hv => ?_)
        obtain ⟨q', out', rfl, rfl, g3, g4, g5, g6⟩ := go _ _ hv
        refine jj_istore_n h d_D_decodeQuotedPrintable_59 (Nat.le_of_ble_eq_true rfl) rfl ?_
        refine jj_goto h 75 d_D_decodeQuotedPrintable_60 (by decide) ?_
        refine jj_iinc h d_D_decodeQuotedPrintable_75 rfl rfl ?_
        refine jj_goto h 5 d_D_decodeQuotedPrintable_78 (by decide) ?_
        exact ih q' (t + 1) out' _ (by omega) (by omega) g4 (by omega) (by omega) g5 g6
      refine jj_iload h d_D_decodeQuotedPrintable_5 rfl ?_
      refine jj_sipush h d_D_decodeQuotedPrintable_7 (by decide) ?_
      refine jj_icmp_ge h 81 d_D_decodeQuotedPrintable_10 (by decide) ⟨by omega, by omega⟩ ⟨by omega, by omega⟩ (fun q10 => absurd q10 (by omega)) (fun _ => ?_)
      refine jj_iload_n h d_D_decodeQuotedPrintable_13 rfl ?_
      refine jj_iload_n h d_D_decodeQuotedPrintable_14 rfl ?_
      refine jj_icmp_ge h 81 d_D_decodeQuotedPrintable_15 (by decide) ⟨by omega, by omega⟩ ⟨by omega, by omega⟩ (fun q15 => absurd q15 (by omega)) (fun _ => ?_)
      refine jj_aload_n h d_D_decodeQuotedPrintable_18 rfl ⟨_, rfl⟩ ?_
      refine jj_g_D_source h  fl_D_9 d_D_decodeQuotedPrintable_19 ?_
      refine jj_iload_n h d_D_decodeQuotedPrintable_22 rfl ?_
      refine jj_callV h (cB_in hwm (by omega) (by rw [r3]; omega)) cv_D_52 (ro_of he (by first | decide | omega) (by decide)) rfl rfl (by unfold mt_N; omega) (ce_B (by omega)) rfl rfl (Nat.le_of_ble_eq_true rfl) d_D_decodeQuotedPrintable_23 (fun v m23 hv => ?_)
      obtain ⟨rfl, rfl⟩ := hv
      show JJ G X 0 0 (bL_ mem 5 out) _ _ (vi (bL_ mem 5 out 11 q) :: _)
      rw [r11]
      refine jj_istore h d_D_decodeQuotedPrintable_26 (Nat.le_of_ble_eq_true rfl) rfl ?_
      refine jj_iload h d_D_decodeQuotedPrintable_28 rfl ?_
      refine jj_bipush h d_D_decodeQuotedPrintable_30 (by decide) ?_
      refine jj_icmp_ne h 45 d_D_decodeQuotedPrintable_32 (by decide) ⟨by omega, by omega⟩ ⟨by omega, by omega⟩ (fun _ => ?_) (fun q32 => absurd q32 (c61))
      refine jj_iload h d_D_decodeQuotedPrintable_45 rfl ?_
      refine jj_callN h (cX_isBlank ⟨by omega, by omega⟩) cv_D_68 (ro_of he (by first | decide | omega) (by decide)) rfl rfl rfl (Nat.le_of_ble_eq_true rfl) d_D_decodeQuotedPrintable_47 (fun v m47 hv => ?_)
      obtain ⟨rfl, rfl⟩ := hv
      rw [if_neg hb]
      refine jj_if_eq h 63 d_D_decodeQuotedPrintable_50 (by decide) ⟨by omega, by omega⟩ (fun _ => ?_) (fun q50 => absurd (by omega) q50)
      refine jj_aload_n h d_D_decodeQuotedPrintable_63 rfl ⟨_, rfl⟩ ?_
      refine jj_g_D_contents h  fl_D_15 d_D_decodeQuotedPrintable_64 ?_
      refine jj_iload h d_D_decodeQuotedPrintable_67 rfl ?_
      refine jj_callV h (cB_put ⟨by decide, by decide⟩ hm5.1 (by show _ ≤ (320 : Int); exact hm5.2)) cv_D_60 (ro_of he (by first | decide | omega) (by decide)) rfl rfl (by unfold mt_N; omega) (ce_B (by omega)) rfl rfl (Nat.le_of_ble_eq_true rfl) d_D_decodeQuotedPrintable_69 (fun v m69 hv => ?_)
      obtain ⟨rfl, rfl⟩ := hv
      refine jj_iinc h d_D_decodeQuotedPrintable_72 rfl rfl ?_
      refine jj_iinc h d_D_decodeQuotedPrintable_75 rfl rfl ?_
      refine jj_goto h 5 d_D_decodeQuotedPrintable_78 (by decide) ?_
      have := ih (q + 1) (t + 1) (out ++ [mem 11 q]) (some (vi (mem 11 q))) (by omega) (by omega) (by omega) (by omega) (by omega) (by rw [List.length_append]; show ((out.length + 1 : Nat) : Int) ≤ _; omega) (by rw [k7, hcs, qp_other c61 hb, List.append_assoc]; rfl)
      rw [bL_snoc] at this
      exact this
  refine jj_iload_n h d_D_decodeQuotedPrintable_0 rfl ?_
  refine jj_istore_n h d_D_decodeQuotedPrintable_1 (Nat.le_of_ble_eq_true rfl) rfl ?_
  refine jj_iconst h d_D_decodeQuotedPrintable_2 ?_
  refine jj_istore h d_D_decodeQuotedPrintable_3 (Nat.le_of_ble_eq_true rfl) rfl ?_
  exact loop _ p 0 [] none (Nat.le_refl _) (Int.le_refl _) p1 (Int.le_refl _) (by omega) (by show ((0 : Nat) : Int) ≤ _; omega) (by rw [hD]; rfl)
