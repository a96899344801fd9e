/-! The class: blanks, a line's end, ranges put behind a row. -/
theorem cB_skipBlanks {G : mt_G} {l : Launch} {mem : mt_M} {r : Nat} {p e : Int} (hw : bw_ mem r) (h0 : 0 ≤ p) (h1 : p ≤ e) (h2 : e ≤ mem r 1) : CT G l y_B_skipBlanks c_B_skipBlanks 4 (some .int) 2 [vr G r, vi p, vi e] mem (fun v m' => v = some (vi (e - (bb_ (slc (mem (r + 8)) p e)).length)) ∧ mem = m') := by
  have hr := hw.1
  have hln := ln_b hw.1
  have hsz := hw.2.2.1
  refine CT.intro (by decide) rfl (Nat.le_of_ble_eq_true rfl) (fun X h he => ?_)
  have loop : ∀ (n : Nat) (q : Int), (e - q).toNat = n → p ≤ q → q ≤ e → bb_ (slc (mem (r + 8)) p e) = bb_ (slc (mem (r + 8)) q e) → JJ G X 0 0 mem 2 [some (vr G r), some (vi p), some (vi e), some (vi q)] [] := by
    intro n
    induction n with
    | zero =>
      intro q hn hp hq hc
      refine jj_iload_n h d_B_skipBlanks_2 rfl ?_
      refine jj_iload_n h d_B_skipBlanks_3 rfl ?_
      refine jj_icmp_ge h 26 d_B_skipBlanks_4 (by decide) ⟨by omega, by omega⟩ ⟨by omega, by omega⟩ (fun _ => ?_) (fun q4 => absurd (by omega) q4)
      refine jj_iload_n h d_B_skipBlanks_26 rfl ?_
      refine jj_iret h he d_B_skipBlanks_27 ?_
      exact ⟨by rw [hc, slc_nil (by omega)]; simp only [bb_, List.length_nil]; congr 2; omega, rfl⟩
    | succ n ih =>
      intro q hn hp hq hc
      have hq3 := hw.2.2.2 q (by omega) (by omega)
      have hsc : slc (mem (r + 8)) q e = mem (r + 8) q :: slc (mem (r + 8)) (q + 1) e := slc_cons (by omega)
      refine jj_iload_n h d_B_skipBlanks_2 rfl ?_
      refine jj_iload_n h d_B_skipBlanks_3 rfl ?_
      refine jj_icmp_ge h 26 d_B_skipBlanks_4 (by decide) ⟨by omega, by omega⟩ ⟨by omega, by omega⟩ (fun q4 => absurd q4 (by omega)) (fun _ => ?_)
      refine jj_aload_n h d_B_skipBlanks_7 rfl ⟨_, rfl⟩ ?_
      refine jj_iload_n h d_B_skipBlanks_8 rfl ?_
      refine jj_callV h (cB_in hw (by omega) (by omega)) cv_B_23 (ro_of he (by decide) (by decide)) rfl rfl (by unfold mt_N; omega) (ce_B (by omega)) rfl rfl (Nat.le_of_ble_eq_true rfl) d_B_skipBlanks_9 (fun v m9 hv => ?_)
      obtain ⟨rfl, rfl⟩ := hv
      refine jj_callN h (cX_isBlank ⟨by omega, by omega⟩) cv_B_44 (ro_of he (by decide) (by decide)) rfl rfl rfl (Nat.le_of_ble_eq_true rfl) d_B_skipBlanks_12 (fun v m12 hv => ?_)
      obtain ⟨rfl, rfl⟩ := hv
      refine jj_if_ne h 20 d_B_skipBlanks_15 (by decide) ⟨by split <;> omega, by split <;> omega⟩ (fun q15 => ?_) (fun q15 => ?_)
      · have q15 : bl_ (mem (r + 8) q) := Decidable.byContradiction fun z => q15 (by rw [if_neg z])
        refine jj_iinc h d_B_skipBlanks_20 rfl rfl ?_
        refine jj_goto h 2 d_B_skipBlanks_23 (by decide) ?_
        exact ih (q + 1) (by omega) (by omega) (by omega) (by rw [hc, hsc, bb_, if_pos q15])
      · have q15 : ¬ bl_ (mem (r + 8) q) := fun z => by rw [if_pos z] at q15; omega
        refine jj_iload_n h d_B_skipBlanks_18 rfl ?_
        refine jj_iret h he d_B_skipBlanks_19 ?_
        exact ⟨by rw [hc, hsc, bb_, if_neg q15, ← hsc, slc_len]; congr 2; omega, rfl⟩
  refine jj_iload_n h d_B_skipBlanks_0 rfl ?_
  refine jj_istore_n h d_B_skipBlanks_1 (Nat.le_of_ble_eq_true rfl) rfl ?_
  exact loop _ p rfl (by omega) h1 rfl
theorem cB_lineEndSize {G : mt_G} {l : Launch} {mem : mt_M} {r : Nat} {p e : Int} (hw : bw_ mem r) (h0 : 0 ≤ p) (h1 : p ≤ e) (h2 : e ≤ mem r 1) : CT G l y_B_lineEndSize c_B_lineEndSize 4 (some .int) 2 [vr G r, vi p, vi e] mem (fun v m' => v = some (vi (lb_ (slc (mem (r + 8)) p e))) ∧ mem = m') := by
  have hr := hw.1
  have hln := ln_b hw.1
  have hsz := hw.2.2.1
  refine CT.intro (by decide) rfl (Nat.le_of_ble_eq_true rfl) (fun X h he => ?_)
  by_cases k0 : p < e
  · have c1 := hw.2.2.2 p (by omega) (by omega)
    rw [slc_cons k0] at he
    by_cases k1 : p + 1 < e
    · have c2 := hw.2.2.2 (p + 1) (by omega) (by omega)
      rw [slc_cons k1] at he
      simp only [lb_] at he
      refine jj_iload_n h d_B_lineEndSize_0 rfl ?_
      refine jj_iload_n h d_B_lineEndSize_1 rfl ?_
      refine jj_icmp_ge h 17 d_B_lineEndSize_2 (by decide) ⟨by omega, by omega⟩ ⟨by omega, by omega⟩ (fun q2 => absurd q2 (by omega)) (fun _ => ?_)
      refine jj_aload_n h d_B_lineEndSize_5 rfl ⟨_, rfl⟩ ?_
      refine jj_iload_n h d_B_lineEndSize_6 rfl ?_
      refine jj_callV h (cB_in hw (by omega) (by omega)) cv_B_23 (ro_of he (by decide) (by decide)) rfl rfl (by unfold mt_N; omega) (ce_B (by omega)) rfl rfl (Nat.le_of_ble_eq_true rfl) d_B_lineEndSize_7 (fun v m7 hv => ?_)
      obtain ⟨rfl, rfl⟩ := hv
      refine jj_bipush h d_B_lineEndSize_10 (by decide) ?_
      refine jj_icmp_ne h 17 d_B_lineEndSize_12 (by decide) ⟨by omega, by omega⟩ ⟨by omega, by omega⟩ (fun q12 => ?_) (fun q12 => ?_)
      · refine jj_iload_n h d_B_lineEndSize_17 rfl ?_
        refine jj_iconst h d_B_lineEndSize_18 ?_
        refine jj_iadd h d_B_lineEndSize_19 ?_
        refine jj_iload_n h d_B_lineEndSize_20 rfl ?_
        refine jj_icmp_ge h 50 d_B_lineEndSize_21 (by decide) ⟨by omega, by omega⟩ ⟨by omega, by omega⟩ (fun q21 => absurd q21 (by omega)) (fun _ => ?_)
        refine jj_aload_n h d_B_lineEndSize_24 rfl ⟨_, rfl⟩ ?_
        refine jj_iload_n h d_B_lineEndSize_25 rfl ?_
        refine jj_callV h (cB_in hw (by omega) (by omega)) cv_B_23 (ro_of he (by decide) (by decide)) rfl rfl (by unfold mt_N; omega) (ce_B (by omega)) rfl rfl (Nat.le_of_ble_eq_true rfl) d_B_lineEndSize_26 (fun v m26 hv => ?_)
        obtain ⟨rfl, rfl⟩ := hv
        refine jj_bipush h d_B_lineEndSize_29 (by decide) ?_
        refine jj_icmp_ne h 50 d_B_lineEndSize_31 (by decide) ⟨by omega, by omega⟩ ⟨by omega, by omega⟩ (fun q31 => ?_) (fun q31 => ?_)
        · refine jj_iconst h d_B_lineEndSize_50 ?_
          refine jj_istore_n h d_B_lineEndSize_51 (Nat.le_of_ble_eq_true rfl) rfl ?_
          refine jj_iload_n h d_B_lineEndSize_52 rfl ?_
          refine jj_if_eq h 60 d_B_lineEndSize_53 (by decide) ⟨by decide, by decide⟩ (fun _ => ?_) (fun q53 => absurd (rfl) q53)
          refine jj_iconst h d_B_lineEndSize_60 ?_
          refine jj_iret h he d_B_lineEndSize_61 ?_
          exact ⟨by rw [if_neg (by omega), if_neg (by omega)], rfl⟩
        · refine jj_aload_n h d_B_lineEndSize_34 rfl ⟨_, rfl⟩ ?_
          refine jj_iload_n h d_B_lineEndSize_35 rfl ?_
          refine jj_iconst h d_B_lineEndSize_36 ?_
          refine jj_iadd h d_B_lineEndSize_37 ?_
          refine jj_callV h (cB_in hw (by omega) (by omega)) cv_B_23 (ro_of he (by decide) (by decide)) rfl rfl (by unfold mt_N; omega) (ce_B (by omega)) rfl rfl (Nat.le_of_ble_eq_true rfl) d_B_lineEndSize_38 (fun v m38 hv => ?_)
          obtain ⟨rfl, rfl⟩ := hv
          refine jj_bipush h d_B_lineEndSize_41 (by decide) ?_
          refine jj_icmp_ne h 50 d_B_lineEndSize_43 (by decide) ⟨by omega, by omega⟩ ⟨by omega, by omega⟩ (fun q43 => ?_) (fun q43 => ?_)
          · refine jj_iconst h d_B_lineEndSize_50 ?_
            refine jj_istore_n h d_B_lineEndSize_51 (Nat.le_of_ble_eq_true rfl) rfl ?_
            refine jj_iload_n h d_B_lineEndSize_52 rfl ?_
            refine jj_if_eq h 60 d_B_lineEndSize_53 (by decide) ⟨by decide, by decide⟩ (fun _ => ?_) (fun q53 => absurd (rfl) q53)
            refine jj_iconst h d_B_lineEndSize_60 ?_
            refine jj_iret h he d_B_lineEndSize_61 ?_
            exact ⟨by rw [if_neg (by omega), if_neg (by omega)], rfl⟩
          · refine jj_iconst h d_B_lineEndSize_46 ?_
            refine jj_goto h 51 d_B_lineEndSize_47 (by decide) ?_
            refine jj_istore_n h d_B_lineEndSize_51 (Nat.le_of_ble_eq_true rfl) rfl ?_
            refine jj_iload_n h d_B_lineEndSize_52 rfl ?_
            refine jj_if_eq h 60 d_B_lineEndSize_53 (by decide) ⟨by decide, by decide⟩ (fun q53 => absurd q53 ((by decide))) (fun _ => ?_)
            refine jj_iconst h d_B_lineEndSize_56 ?_
            refine jj_goto h 61 d_B_lineEndSize_57 (by decide) ?_
            refine jj_iret h he d_B_lineEndSize_61 ?_
            exact ⟨by rw [if_neg (by omega), if_pos (by omega)], rfl⟩
      · refine jj_iconst h d_B_lineEndSize_15 ?_
        refine jj_iret h he d_B_lineEndSize_16 ?_
        exact ⟨by rw [if_pos (by omega)], rfl⟩
    · rw [slc_nil (by omega)] at he
      simp only [lb_] at he
      refine jj_iload_n h d_B_lineEndSize_0 rfl ?_
      refine jj_iload_n h d_B_lineEndSize_1 rfl ?_
      refine jj_icmp_ge h 17 d_B_lineEndSize_2 (by decide) ⟨by omega, by omega⟩ ⟨by omega, by omega⟩ (fun q2 => absurd q2 (by omega)) (fun _ => ?_)
      refine jj_aload_n h d_B_lineEndSize_5 rfl ⟨_, rfl⟩ ?_
      refine jj_iload_n h d_B_lineEndSize_6 rfl ?_
      refine jj_callV h (cB_in hw (by omega) (by omega)) cv_B_23 (ro_of he (by decide) (by decide)) rfl rfl (by unfold mt_N; omega) (ce_B (by omega)) rfl rfl (Nat.le_of_ble_eq_true rfl) d_B_lineEndSize_7 (fun v m7 hv => ?_)
      obtain ⟨rfl, rfl⟩ := hv
      refine jj_bipush h d_B_lineEndSize_10 (by decide) ?_
      refine jj_icmp_ne h 17 d_B_lineEndSize_12 (by decide) ⟨by omega, by omega⟩ ⟨by omega, by omega⟩ (fun q12 => ?_) (fun q12 => ?_)
      · refine jj_iload_n h d_B_lineEndSize_17 rfl ?_
        refine jj_iconst h d_B_lineEndSize_18 ?_
        refine jj_iadd h d_B_lineEndSize_19 ?_
        refine jj_iload_n h d_B_lineEndSize_20 rfl ?_
        refine jj_icmp_ge h 50 d_B_lineEndSize_21 (by decide) ⟨by omega, by omega⟩ ⟨by omega, by omega⟩ (fun _ => ?_) (fun q21 => absurd (by omega) q21)
        refine jj_iconst h d_B_lineEndSize_50 ?_
        refine jj_istore_n h d_B_lineEndSize_51 (Nat.le_of_ble_eq_true rfl) rfl ?_
        refine jj_iload_n h d_B_lineEndSize_52 rfl ?_
        refine jj_if_eq h 60 d_B_lineEndSize_53 (by decide) ⟨by decide, by decide⟩ (fun _ => ?_) (fun q53 => absurd (rfl) q53)
        refine jj_iconst h d_B_lineEndSize_60 ?_
        refine jj_iret h he d_B_lineEndSize_61 ?_
        exact ⟨by rw [if_neg (by omega)], rfl⟩
      · refine jj_iconst h d_B_lineEndSize_15 ?_
        refine jj_iret h he d_B_lineEndSize_16 ?_
        exact ⟨by rw [if_pos (by omega)], rfl⟩
  · rw [slc_nil (by omega)] at he
    refine jj_iload_n h d_B_lineEndSize_0 rfl ?_
    refine jj_iload_n h d_B_lineEndSize_1 rfl ?_
    refine jj_icmp_ge h 17 d_B_lineEndSize_2 (by decide) ⟨by omega, by omega⟩ ⟨by omega, by omega⟩ (fun _ => ?_) (fun q2 => absurd (by omega) q2)
    refine jj_iload_n h d_B_lineEndSize_17 rfl ?_
    refine jj_iconst h d_B_lineEndSize_18 ?_
    refine jj_iadd h d_B_lineEndSize_19 ?_
    refine jj_iload_n h d_B_lineEndSize_20 rfl ?_
    refine jj_icmp_ge h 50 d_B_lineEndSize_21 (by decide) ⟨by omega, by omega⟩ ⟨by omega, by omega⟩ (fun _ => ?_) (fun q21 => absurd (by omega) q21)
    refine jj_iconst h d_B_lineEndSize_50 ?_
    refine jj_istore_n h d_B_lineEndSize_51 (Nat.le_of_ble_eq_true rfl) rfl ?_
    refine jj_iload_n h d_B_lineEndSize_52 rfl ?_
    refine jj_if_eq h 60 d_B_lineEndSize_53 (by decide) ⟨by decide, by decide⟩ (fun _ => ?_) (fun q53 => absurd (rfl) q53)
    refine jj_iconst h d_B_lineEndSize_60 ?_
    refine jj_iret h he d_B_lineEndSize_61 ?_
    exact ⟨rfl, rfl⟩
/-- a list put behind a row, byte by byte -/
def bL_ (m : mt_M) (r : Nat) : List Int → mt_M
  | [] => m
  | c :: t => bL_ (bp_ m r c) r t
theorem bL_snoc (r : Nat) (c : Int) : ∀ (A : List Int) (m : mt_M), bL_ m r (A ++ [c]) = bp_ (bL_ m r A) r c
  | [], _ => rfl
  | a :: t, m => by show bL_ (bp_ m r a) r (t ++ [c]) = bp_ (bL_ (bp_ m r a) r t) r c; rw [bL_snoc r c t]
theorem bL_app (r : Nat) : ∀ (A B : List Int) (m : mt_M), bL_ m r (A ++ B) = bL_ (bL_ m r A) r B
  | [], _, _ => rfl
  | a :: t, B, m => by show bL_ (bp_ m r a) r (t ++ B) = bL_ (bL_ (bp_ m r a) r t) r B; rw [bL_app r t]
theorem bp_row {m : mt_M} {r r' : Nat} {c : Int} (h1 : r' ≠ r) (h2 : r' ≠ r + 8) : bp_ m r c r' = m r' := by
  unfold bp_; split
  · rw [st_row h1, st_row h2]
  · rw [st_row h1]
theorem bL_row {r r' : Nat} (h1 : r' ≠ r) (h2 : r' ≠ r + 8) : ∀ (A : List Int) (m : mt_M), bL_ m r A r' = m r'
  | [], _ => rfl
  | a :: t, m => by show bL_ (bp_ m r a) r t r' = m r'; rw [bL_row h1 h2 t, bp_row h1 h2]
/-- the size of a row stays sound -/
theorem bp_size {m : mt_M} {r : Nat} {c : Int} (h0 : 0 ≤ m r 1) (h1 : m r 1 ≤ ln_ (r + 8)) : 0 ≤ bp_ m r c r 1 ∧ bp_ m r c r 1 ≤ ln_ (r + 8) := by
  unfold bp_; split
  · rw [st_same]; omega
  · rw [st_ne (by omega)]; omega
theorem bL_size {r : Nat} : ∀ (A : List Int) (m : mt_M), 0 ≤ m r 1 → m r 1 ≤ ln_ (r + 8) → 0 ≤ bL_ m r A r 1 ∧ bL_ m r A r 1 ≤ ln_ (r + 8)
  | [], _, h0, h1 => ⟨h0, h1⟩
  | a :: t, m, h0, h1 => bL_size t (bp_ m r a) (bp_size h0 h1).1 (bp_size h0 h1).2
theorem cB_putRange {G : mt_G} {l : Launch} {mem : mt_M} {r q : Nat} {p e : Int} (hr : 1 ≤ r ∧ r ≤ 8) (hq : bw_ mem q) (hrq : q ≠ r) (h0 : 0 ≤ mem r 1) (h1 : mem r 1 ≤ ln_ (r + 8)) (p0 : 0 ≤ p) (p1 : p ≤ e) (p2 : e ≤ mem q 1) : CT G l y_B_putRange c_B_putRange 5 none 2 [vr G r, vr G q, vi p, vi e] mem (fun v m' => v = none ∧ bL_ mem r (slc (mem (q + 8)) p e) = m') := by
  have hq1 := hq.1
  have hln := ln_b hq.1
  have hsz := hq.2.2.1
  refine CT.intro (by decide) rfl (Nat.le_of_ble_eq_true rfl) (fun X h he => ?_)
  have loop : ∀ (n : Nat) (i : Int), (e - i).toNat = n → p ≤ i → i ≤ e → JJ G X 0 0 (bL_ mem r (slc (mem (q + 8)) p i)) 3 [some (vr G r), some (vr G q), some (vi p), some (vi e), some (vi i)] [] := by
    intro n
    induction n with
    | zero =>
      intro i hn hi0 hi1
      have hie : i = e := by omega
      subst hie
      refine jj_iload h d_B_putRange_3 rfl ?_
      refine jj_iload_n h d_B_putRange_5 rfl ?_
      refine jj_icmp_ge h 25 d_B_putRange_6 (by decide) ⟨by omega, by omega⟩ ⟨by omega, by omega⟩ (fun _ => ?_) (fun q6 => absurd (by omega) q6)
      refine jj_vret h he d_B_putRange_25 ?_
      exact ⟨rfl, rfl⟩
    | succ n ih =>
      intro i hn hi0 hi1
      have e1 : bL_ mem r (slc (mem (q + 8)) p i) q = mem q := bL_row (by omega) (by omega) _ _
      have e2 : bL_ mem r (slc (mem (q + 8)) p i) (q + 8) = mem (q + 8) := bL_row (by omega) (by omega) _ _
      have e3 := bL_size (slc (mem (q + 8)) p i) mem h0 h1
      have hq2 : bw_ (bL_ mem r (slc (mem (q + 8)) p i)) q := by unfold bw_; rw [e1, e2]; exact hq
      refine jj_iload h d_B_putRange_3 rfl ?_
      refine jj_iload_n h d_B_putRange_5 rfl ?_
      refine jj_icmp_ge h 25 d_B_putRange_6 (by decide) ⟨by omega, by omega⟩ ⟨by omega, by omega⟩ (fun q6 => absurd q6 (by omega)) (fun _ => ?_)
      refine jj_aload_n h d_B_putRange_9 rfl ⟨_, rfl⟩ ?_
      refine jj_aload_n h d_B_putRange_10 rfl ⟨_, rfl⟩ ?_
      refine jj_iload h d_B_putRange_11 rfl ?_
      refine jj_callV h (cB_in hq2 (by omega) (by rw [e1]; omega)) cv_B_23 (ro_of he (by decide) (by decide)) rfl rfl (by unfold mt_N; omega) (ce_B (by omega)) rfl rfl (Nat.le_of_ble_eq_true rfl) d_B_putRange_13 (fun v m13 hv => ?_)
      obtain ⟨rfl, rfl⟩ := hv
      rw [e2]
      refine jj_callV h (cB_put hr e3.1 e3.2) cv_B_27 (ro_of he (by decide) (by decide)) rfl rfl (by unfold mt_N; omega) (ce_B (by omega)) rfl rfl (Nat.le_of_ble_eq_true rfl) d_B_putRange_16 (fun v m16 hv => ?_)
      obtain ⟨rfl, rfl⟩ := hv
      refine jj_iinc h d_B_putRange_19 rfl rfl ?_
      refine jj_goto h 3 d_B_putRange_22 (by decide) ?_
      have := ih (i + 1) (by omega) (by omega) (by omega)
      rw [slc_snoc hi0, bL_snoc] at this
      exact this
  refine jj_iload_n h d_B_putRange_0 rfl ?_
  refine jj_istore h d_B_putRange_1 (Nat.le_of_ble_eq_true rfl) rfl ?_
  have := loop _ p rfl (Int.le_refl _) p1
  rw [slc_nil (Int.le_refl _)] at this
  exact this
