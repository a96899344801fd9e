/-! The reference writes quoted-printable. -/
def lfB : List Int → Bool
  | a :: b :: _ => decide (a = 13 ∧ b = 10)
  | _ => false
/-- may c stand as it is: r is what follows, col the column -/
def pnB (c : Int) (r : List Int) (col : Int) : Bool := if bl_ c then decide (r ≠ []) && !(lfB r) else decide (32 < c ∧ c < 127 ∧ c ≠ 61 ∧ ¬ (c = 45 ∧ col = 0))
theorem cM_plain {G : mt_G} {l : Launch} {mem : mt_M} {p k n col z : Int} (hp : 0 ≤ p) (hk : 0 ≤ k) (hkn : k < n) (hpn : p + n ≤ 1400) (hb : by_ (mem 187) p (p + n)) (hc : r32 col) (hz : z = if pnB (mem 187 (p + k)) (slc (mem 187) (p + k + 1) (p + n)) col then 1 else 0) : CT G l y_M_plain c_M_plain 6 (some .boolean) 2 [vr G 182, vi p, vi k, vi n, vi col] mem (fun v m' => v = some (vi z) ∧ mem = m') := by
  obtain ⟨c1, c2⟩ := hc
  refine CT.intro (by decide) rfl (Nat.le_of_ble_eq_true rfl) (fun X h he => ?_)
  have ba := hb (p + k) (by omega) (by omega)
  generalize ha : mem 187 (p + k) = a at *
  unfold pnB at hz
  by_cases hB : bl_ a
  · rw [if_pos hB] at hz
    by_cases k1 : k + 1 < n
    · have bb := hb (p + k + 1) (by omega) (by omega)
      rw [slc_cons (by omega)] at hz
      generalize hb9 : mem 187 (p + k + 1) = b at *
      by_cases k2 : k + 2 < n
      · have bc := hb (p + k + 2) (by omega) (by omega)
        rw [slc_cons (by omega), show p + k + 1 + 1 = p + k + 2 by omega] at hz
        generalize hc9 : mem 187 (p + k + 2) = d at *
        have hz2 : z = if ¬ (b = 13 ∧ d = 10) then 1 else 0 := by
          rw [hz]
          simp only [lfB, ne_eq, reduceCtorEq, not_false_eq_true, decide_true, Bool.true_and]
          by_cases q : b = 13 ∧ d = 10
          · rw [decide_eq_true q, if_neg (by decide), if_neg (by simp [q])]
          · rw [decide_eq_false q, if_pos (by decide), if_pos q]
        refine jj_aload_n h d_M_plain_0 rfl ⟨_, rfl⟩ ?_
        refine jj_g_M_text h  fl_M_22 d_M_plain_1 ?_
        refine jj_iload_n h d_M_plain_4 rfl ?_
        refine jj_iload_n h d_M_plain_5 rfl ?_
        refine jj_iadd h d_M_plain_6 ?_
        refine jj_iaload (N := 1400) h (by decide) rfl (by decide) (by omega) (by omega) d_M_plain_7 ?_
        rw [ha]
        refine jj_istore h d_M_plain_8 (Nat.le_of_ble_eq_true rfl) rfl ?_
        refine jj_iload h d_M_plain_10 rfl ?_
        refine jj_callS h (cM_isBlank ⟨by omega, by omega⟩) cv_M_62 (ro_of he (by decide) (by decide)) rfl rfl rfl (Nat.le_of_ble_eq_true rfl) d_M_plain_12 (fun v m12 hv => ?_)
        obtain ⟨rfl, rfl⟩ := hv
        rw [if_pos hB]
        refine jj_if_eq h 68 d_M_plain_15 (by decide) ⟨by decide, by decide⟩ (fun q15 => absurd q15 ((by decide))) (fun _ => ?_)
        refine jj_iload_n h d_M_plain_18 rfl ?_
        refine jj_iconst h d_M_plain_19 ?_
        refine jj_iadd h d_M_plain_20 ?_
        refine jj_iload_n h d_M_plain_21 rfl ?_
        refine jj_icmp_ge h 66 d_M_plain_22 (by decide) ⟨by omega, by omega⟩ ⟨by omega, by omega⟩ (fun q22 => absurd q22 (by omega)) (fun _ => ?_)
        refine jj_iload_n h d_M_plain_25 rfl ?_
        refine jj_iconst h d_M_plain_26 ?_
        refine jj_iadd h d_M_plain_27 ?_
        refine jj_iload_n h d_M_plain_28 rfl ?_
        refine jj_icmp_ge h 62 d_M_plain_29 (by decide) ⟨by omega, by omega⟩ ⟨by omega, by omega⟩ (fun q29 => absurd q29 (by omega)) (fun _ => ?_)
        refine jj_aload_n h d_M_plain_32 rfl ⟨_, rfl⟩ ?_
        refine jj_g_M_text h  fl_M_22 d_M_plain_33 ?_
        refine jj_iload_n h d_M_plain_36 rfl ?_
        refine jj_iload_n h d_M_plain_37 rfl ?_
        refine jj_iadd h d_M_plain_38 ?_
        refine jj_iconst h d_M_plain_39 ?_
        refine jj_iadd h d_M_plain_40 ?_
        refine jj_iaload (N := 1400) h (by decide) rfl (by decide) (by omega) (by omega) d_M_plain_41 ?_
        rw [hb9]
        refine jj_bipush h d_M_plain_42 (by decide) ?_
        refine jj_icmp_ne h 62 d_M_plain_44 (by decide) ⟨by omega, by omega⟩ ⟨by omega, by omega⟩ (fun q44 => ?_) (fun q44 => ?_)
        · refine jj_iconst h d_M_plain_62 ?_
          refine jj_goto h 67 d_M_plain_63 (by decide) ?_
          refine jj_zret h he (by omega) d_M_plain_67 ?_
          exact ⟨by rw [hz2, if_pos (by omega)], rfl⟩
        · refine jj_aload_n h d_M_plain_47 rfl ⟨_, rfl⟩ ?_
          refine jj_g_M_text h  fl_M_22 d_M_plain_48 ?_
          refine jj_iload_n h d_M_plain_51 rfl ?_
          refine jj_iload_n h d_M_plain_52 rfl ?_
          refine jj_iadd h d_M_plain_53 ?_
          refine jj_iconst h d_M_plain_54 ?_
          refine jj_iadd h d_M_plain_55 ?_
          refine jj_iaload (N := 1400) h (by decide) rfl (by decide) (by omega) (by omega) d_M_plain_56 ?_
          rw [hc9]
          refine jj_bipush h d_M_plain_57 (by decide) ?_
          refine jj_icmp_eq h 66 d_M_plain_59 (by decide) ⟨by omega, by omega⟩ ⟨by omega, by omega⟩ (fun q59 => ?_) (fun q59 => ?_)
          · refine jj_iconst h d_M_plain_66 ?_
            refine jj_zret h he (by omega) d_M_plain_67 ?_
            exact ⟨by rw [hz2, if_neg (by omega)], rfl⟩
          · refine jj_iconst h d_M_plain_62 ?_
            refine jj_goto h 67 d_M_plain_63 (by decide) ?_
            refine jj_zret h he (by omega) d_M_plain_67 ?_
            exact ⟨by rw [hz2, if_pos (by omega)], rfl⟩
      · rw [slc_nil (by omega)] at hz
        have hz2 : z = 1 := hz
        refine jj_aload_n h d_M_plain_0 rfl ⟨_, rfl⟩ ?_
        refine jj_g_M_text h  fl_M_22 d_M_plain_1 ?_
        refine jj_iload_n h d_M_plain_4 rfl ?_
        refine jj_iload_n h d_M_plain_5 rfl ?_
        refine jj_iadd h d_M_plain_6 ?_
        refine jj_iaload (N := 1400) h (by decide) rfl (by decide) (by omega) (by omega) d_M_plain_7 ?_
        rw [ha]
        refine jj_istore h d_M_plain_8 (Nat.le_of_ble_eq_true rfl) rfl ?_
        refine jj_iload h d_M_plain_10 rfl ?_
        refine jj_callS h (cM_isBlank ⟨by omega, by omega⟩) cv_M_62 (ro_of he (by decide) (by decide)) rfl rfl rfl (Nat.le_of_ble_eq_true rfl) d_M_plain_12 (fun v m12 hv => ?_)
        obtain ⟨rfl, rfl⟩ := hv
        rw [if_pos hB]
        refine jj_if_eq h 68 d_M_plain_15 (by decide) ⟨by decide, by decide⟩ (fun q15 => absurd q15 ((by decide))) (fun _ => ?_)
        refine jj_iload_n h d_M_plain_18 rfl ?_
        refine jj_iconst h d_M_plain_19 ?_
        refine jj_iadd h d_M_plain_20 ?_
        refine jj_iload_n h d_M_plain_21 rfl ?_
        refine jj_icmp_ge h 66 d_M_plain_22 (by decide) ⟨by omega, by omega⟩ ⟨by omega, by omega⟩ (fun q22 => absurd q22 (by omega)) (fun _ => ?_)
        refine jj_iload_n h d_M_plain_25 rfl ?_
        refine jj_iconst h d_M_plain_26 ?_
        refine jj_iadd h d_M_plain_27 ?_
        refine jj_iload_n h d_M_plain_28 rfl ?_
        refine jj_icmp_ge h 62 d_M_plain_29 (by decide) ⟨by omega, by omega⟩ ⟨by omega, by omega⟩ (fun _ => ?_) (fun q29 => absurd (by omega) q29)
        refine jj_iconst h d_M_plain_62 ?_
        refine jj_goto h 67 d_M_plain_63 (by decide) ?_
        refine jj_zret h he (by omega) d_M_plain_67 ?_
        exact ⟨by rw [hz2], rfl⟩
    · rw [slc_nil (by omega)] at hz
      have hz2 : z = 0 := hz
      refine jj_aload_n h d_M_plain_0 rfl ⟨_, rfl⟩ ?_
      refine jj_g_M_text h  fl_M_22 d_M_plain_1 ?_
      refine jj_iload_n h d_M_plain_4 rfl ?_
      refine jj_iload_n h d_M_plain_5 rfl ?_
      refine jj_iadd h d_M_plain_6 ?_
      refine jj_iaload (N := 1400) h (by decide) rfl (by decide) (by omega) (by omega) d_M_plain_7 ?_
      rw [ha]
      refine jj_istore h d_M_plain_8 (Nat.le_of_ble_eq_true rfl) rfl ?_
      refine jj_iload h d_M_plain_10 rfl ?_
      refine jj_callS h (cM_isBlank ⟨by omega, by omega⟩) cv_M_62 (ro_of he (by decide) (by decide)) rfl rfl rfl (Nat.le_of_ble_eq_true rfl) d_M_plain_12 (fun v m12 hv => ?_)
      obtain ⟨rfl, rfl⟩ := hv
      rw [if_pos hB]
      refine jj_if_eq h 68 d_M_plain_15 (by decide) ⟨by decide, by decide⟩ (fun q15 => absurd q15 ((by decide))) (fun _ => ?_)
      refine jj_iload_n h d_M_plain_18 rfl ?_
      refine jj_iconst h d_M_plain_19 ?_
      refine jj_iadd h d_M_plain_20 ?_
      refine jj_iload_n h d_M_plain_21 rfl ?_
      refine jj_icmp_ge h 66 d_M_plain_22 (by decide) ⟨by omega, by omega⟩ ⟨by omega, by omega⟩ (fun _ => ?_) (fun q22 => absurd (by omega) q22)
      refine jj_iconst h d_M_plain_66 ?_
      refine jj_zret h he (by omega) d_M_plain_67 ?_
      exact ⟨by rw [hz2], rfl⟩
  · rw [if_neg hB] at hz
    generalize slc (mem 187) (p + k + 1) (p + n) = r at *
    have hz2 : z = if (32 < a ∧ a < 127 ∧ a ≠ 61 ∧ ¬ (a = 45 ∧ col = 0)) then 1 else 0 := by
      rw [hz]
      by_cases q : 32 < a ∧ a < 127 ∧ a ≠ 61 ∧ ¬ (a = 45 ∧ col = 0)
      · rw [decide_eq_true q, if_pos rfl, if_pos q]
      · rw [decide_eq_false q, if_neg (by decide), if_neg q]
    refine jj_aload_n h d_M_plain_0 rfl ⟨_, rfl⟩ ?_
    refine jj_g_M_text h  fl_M_22 d_M_plain_1 ?_
    refine jj_iload_n h d_M_plain_4 rfl ?_
    refine jj_iload_n h d_M_plain_5 rfl ?_
    refine jj_iadd h d_M_plain_6 ?_
    refine jj_iaload (N := 1400) h (by decide) rfl (by decide) (by omega) (by omega) d_M_plain_7 ?_
    rw [ha]
    refine jj_istore h d_M_plain_8 (Nat.le_of_ble_eq_true rfl) rfl ?_
    refine jj_iload h d_M_plain_10 rfl ?_
    refine jj_callS h (cM_isBlank ⟨by omega, by omega⟩) cv_M_62 (ro_of he (by decide) (by decide)) rfl rfl rfl (Nat.le_of_ble_eq_true rfl) d_M_plain_12 (fun v m12 hv => ?_)
    obtain ⟨rfl, rfl⟩ := hv
    rw [if_neg hB]
    refine jj_if_eq h 68 d_M_plain_15 (by decide) ⟨by decide, by decide⟩ (fun _ => ?_) (fun q15 => absurd (rfl) q15)
    refine jj_iload h d_M_plain_68 rfl ?_
    refine jj_bipush h d_M_plain_70 (by decide) ?_
    refine jj_icmp_le h 105 d_M_plain_72 (by decide) ⟨by omega, by omega⟩ ⟨by omega, by omega⟩ (fun q72 => ?_) (fun q72 => ?_)
    · refine jj_iconst h d_M_plain_105 ?_
      refine jj_zret h he (by omega) d_M_plain_106 ?_
      exact ⟨by rw [hz2, if_neg (by omega)], rfl⟩
    · refine jj_iload h d_M_plain_75 rfl ?_
      refine jj_bipush h d_M_plain_77 (by decide) ?_
      refine jj_icmp_ge h 105 d_M_plain_79 (by decide) ⟨by omega, by omega⟩ ⟨by omega, by omega⟩ (fun q79 => ?_) (fun q79 => ?_)
      · refine jj_iconst h d_M_plain_105 ?_
        refine jj_zret h he (by omega) d_M_plain_106 ?_
        exact ⟨by rw [hz2, if_neg (by omega)], rfl⟩
      · refine jj_iload h d_M_plain_82 rfl ?_
        refine jj_bipush h d_M_plain_84 (by decide) ?_
        refine jj_icmp_eq h 105 d_M_plain_86 (by decide) ⟨by omega, by omega⟩ ⟨by omega, by omega⟩ (fun q86 => ?_) (fun q86 => ?_)
        · refine jj_iconst h d_M_plain_105 ?_
          refine jj_zret h he (by omega) d_M_plain_106 ?_
          exact ⟨by rw [hz2, if_neg (by omega)], rfl⟩
        · refine jj_iload h d_M_plain_89 rfl ?_
          refine jj_bipush h d_M_plain_91 (by decide) ?_
          refine jj_icmp_ne h 101 d_M_plain_93 (by decide) ⟨by omega, by omega⟩ ⟨by omega, by omega⟩ (fun q93 => ?_) (fun q93 => ?_)
          · refine jj_iconst h d_M_plain_101 ?_
            refine jj_goto h 106 d_M_plain_102 (by decide) ?_
            refine jj_zret h he (by omega) d_M_plain_106 ?_
            exact ⟨by rw [hz2, if_pos (by omega)], rfl⟩
          · refine jj_iload h d_M_plain_96 rfl ?_
            refine jj_if_eq h 105 d_M_plain_98 (by decide) ⟨by omega, by omega⟩ (fun q98 => ?_) (fun q98 => ?_)
            · refine jj_iconst h d_M_plain_105 ?_
              refine jj_zret h he (by omega) d_M_plain_106 ?_
              exact ⟨by rw [hz2, if_neg (by omega)], rfl⟩
            · refine jj_iconst h d_M_plain_101 ?_
              refine jj_goto h 106 d_M_plain_102 (by decide) ?_
              refine jj_zret h he (by omega) d_M_plain_106 ?_
              exact ⟨by rw [hz2, if_pos (by omega)], rfl⟩
def cw_ (c : Int) (r : List Int) (col : Int) : Int := if 30 < col + (if pnB c r col then 1 else 3) then 0 else col
def cp_ (c : Int) (r : List Int) (col : Int) : List Int := if 30 < col + (if pnB c r col then 1 else 3) then [61, 13, 10] else []
/-- what stands for c, and the column behind it -/
def it_ (c : Int) (r : List Int) (col : Int) : List Int × Int := if pnB c r (cw_ c r col) then (cp_ c r col ++ [c], cw_ c r col + 1) else (cp_ c r col ++ [61, dg_ (c / 16), dg_ (c % 16)], cw_ c r col + 3)
/-- to quoted-printable -/
def qe_ : Int → List Int → List Int
  | _, [] => []
  | col, [c] => (it_ c [] col).1
  | col, c :: d :: t => if c = 13 ∧ d = 10 then [13, 10] ++ qe_ 0 t else (it_ c (d :: t) col).1 ++ qe_ (it_ c (d :: t) col).2 (d :: t)
theorem qe_step (col c : Int) (r : List Int) (h : lfB (c :: r) = false) : qe_ col (c :: r) = (it_ c r col).1 ++ qe_ (it_ c r col).2 r := by
  cases r with
  | nil => show (it_ c [] col).1 = (it_ c [] col).1 ++ []; rw [List.append_nil]
  | cons d t =>
    show (if c = 13 ∧ d = 10 then [13, 10] ++ qe_ 0 t else (it_ c (d :: t) col).1 ++ qe_ (it_ c (d :: t) col).2 (d :: t)) = _
    rw [if_neg (of_decide_eq_false h)]
theorem qe_line (col : Int) (t : List Int) : qe_ col (13 :: 10 :: t) = [13, 10] ++ qe_ 0 t := rfl
theorem it_w {c : Int} {r : List Int} {col : Int} (hw : 30 < col + (if pnB c r col then 1 else 3)) : cw_ c r col = 0 ∧ cp_ c r col = [61, 13, 10] := ⟨if_pos hw, if_pos hw⟩
theorem it_n {c : Int} {r : List Int} {col : Int} (hw : ¬ 30 < col + (if pnB c r col then 1 else 3)) : cw_ c r col = col ∧ cp_ c r col = [] := ⟨if_neg hw, if_neg hw⟩
theorem it_r {c : Int} {r : List Int} {col : Int} (h0 : 0 ≤ col) (h1 : col ≤ 30) : 0 ≤ (it_ c r col).2 ∧ (it_ c r col).2 ≤ 30 ∧ (it_ c r col).1.length ≤ 6 ∧ 0 ≤ cw_ c r col ∧ cw_ c r col ≤ 29 := by
  by_cases hw : 30 < col + (if pnB c r col then 1 else 3)
  · obtain ⟨e1, e2⟩ := it_w hw
    unfold it_
    rw [e1, e2]
    split
    · exact ⟨by show (0 : Int) ≤ 1; decide, by show (1 : Int) ≤ 30; decide, by show 4 ≤ 6; decide, by decide, by decide⟩
    · exact ⟨by show (0 : Int) ≤ 3; decide, by show (3 : Int) ≤ 30; decide, by show 6 ≤ 6; decide, by decide, by decide⟩
  · obtain ⟨e1, e2⟩ := it_n hw
    unfold it_
    rw [e1, e2]
    by_cases hb : pnB c r col = true
    · rw [if_pos hb] at hw ⊢
      exact ⟨by show 0 ≤ col + 1; omega, by show col + 1 ≤ 30; omega, by show 1 ≤ 6; decide, h0, by omega⟩
    · rw [if_neg hb] at hw ⊢
      exact ⟨by show 0 ≤ col + 3; omega, by show col + 3 ≤ 30; omega, by show 3 ≤ 6; decide, h0, by omega⟩
theorem lfB_slc {f : Int → Int} {q e : Int} (hq : q < e) (hl : ¬ (q + 1 < e ∧ f q = 13 ∧ f (q + 1) = 10)) : lfB (f q :: slc f (q + 1) e) = false := by
  by_cases k1 : q + 1 < e
  · rw [slc_cons k1]
    exact decide_eq_false (fun z => hl ⟨k1, z.1, z.2⟩)
  · rw [slc_nil (by omega)]; rfl
set_option maxHeartbeats 6000000 in
theorem cM_putQuoted {G : mt_G} {l : Launch} {mem : mt_M} {p n : Int} (h0 : 0 ≤ mem 182 17) (h1 : mem 182 17 ≤ 1800000000) (hp : 0 ≤ p) (hn : 0 ≤ n) (hpn : p + n ≤ 1400) (hb : by_ (mem 187) p (p + n)) : CT G l y_M_putQuoted c_M_putQuoted 5 none 3 [vr G 182, vi p, vi n] mem (fun v m' => v = none ∧ wc_ mem (qe_ 0 (slc (mem 187) p (p + n))) m' ∧ m' 182 17 ≤ mem 182 17 + 6 * n) := by
  refine CT.intro (by decide) rfl (Nat.le_of_ble_eq_true rfl) (fun X h he => ?_)
  generalize hT : qe_ 0 (slc (mem 187) p (p + n)) = T at *
  have loop : ∀ (j : Nat) (k col : Int) (A : List Int) (m : mt_M) (x : Option Value), (n - k).toNat ≤ j → 0 ≤ k → k ≤ n → 0 ≤ col → col ≤ 30 → m 182 19 = col → A.length ≤ 6 * k → wc_ mem A m → A ++ qe_ col (slc (mem 187) (p + k) (p + n)) = T → JJ G X 0 0 m 7 [some (vr G 182), some (vi p), some (vi n), some (vi k), x] [] := by
    intro j
    induction j with
    | zero =>
      intro k col A m x hj hk0 hk1 hc0 hc1 hC hA hm hT2
      have hkn : k = n := by omega
      subst hkn
      rw [slc_nil (by omega)] at hT2
      have hT3 : A ++ [] = T := by cases A <;> exact hT2
      rw [List.append_nil] at hT3
      have ho := hm.out
      refine jj_iload_n h d_M_putQuoted_7 rfl ?_
      refine jj_iload_n h d_M_putQuoted_8 rfl ?_
      refine jj_icmp_ge h 178 d_M_putQuoted_9 (by decide) ⟨by omega, by omega⟩ ⟨by omega, by omega⟩ (fun _ => ?_) (fun q9 => absurd (by omega) q9)
      refine jj_vret h he d_M_putQuoted_178 ?_
      exact ⟨rfl, by rw [← hT3]; exact hm, by omega⟩
    | succ j ih =>
      intro k col A m x hj hk0 hk1 hc0 hc1 hC hA hm hT2
      have ho := hm.out
      by_cases hkn : n ≤ k
      · exact ih k col A m x (by omega) hk0 hk1 hc0 hc1 hC hA hm hT2
      have hX := hm.row (r := 187) (by decide) (by decide)
      have ba := hb (p + k) (by omega) (by omega)
      by_cases hl : p + k + 1 < p + n ∧ mem 187 (p + k) = 13 ∧ mem 187 (p + k + 1) = 10
      · obtain ⟨l1, l2, l3⟩ := hl
        rw [slc_cons (by omega), slc_cons (by omega), l2, l3, qe_line, ← List.append_assoc, show p + k + 1 + 1 = p + (k + 2) by omega] at hT2
        refine jj_iload_n h d_M_putQuoted_7 rfl ?_
        refine jj_iload_n h d_M_putQuoted_8 rfl ?_
        refine jj_icmp_ge h 178 d_M_putQuoted_9 (by decide) ⟨by omega, by omega⟩ ⟨by omega, by omega⟩ (fun q9 => absurd q9 (by omega)) (fun _ => ?_)
        refine jj_aload_n h d_M_putQuoted_12 rfl ⟨_, rfl⟩ ?_
        refine jj_g_M_text h  fl_M_22 d_M_putQuoted_13 ?_
        refine jj_iload_n h d_M_putQuoted_16 rfl ?_
        refine jj_iload_n h d_M_putQuoted_17 rfl ?_
        refine jj_iadd h d_M_putQuoted_18 ?_
        refine jj_iaload (N := 1400) h (by decide) rfl (by decide) (by omega) (by omega) d_M_putQuoted_19 ?_
        rw [hX, l2]
        refine jj_istore h d_M_putQuoted_20 (Nat.le_of_ble_eq_true rfl) rfl ?_
        refine jj_iload h d_M_putQuoted_22 rfl ?_
        refine jj_bipush h d_M_putQuoted_24 (by decide) ?_
        refine jj_icmp_ne h 61 d_M_putQuoted_26 (by decide) ⟨by omega, by omega⟩ ⟨by omega, by omega⟩ (fun q26 => absurd (by omega) q26) (fun _ => ?_)
        refine jj_iload_n h d_M_putQuoted_29 rfl ?_
        refine jj_iconst h d_M_putQuoted_30 ?_
        refine jj_iadd h d_M_putQuoted_31 ?_
        refine jj_iload_n h d_M_putQuoted_32 rfl ?_
        refine jj_icmp_ge h 61 d_M_putQuoted_33 (by decide) ⟨by omega, by omega⟩ ⟨by omega, by omega⟩ (fun q33 => absurd q33 (by omega)) (fun _ => ?_)
        refine jj_aload_n h d_M_putQuoted_36 rfl ⟨_, rfl⟩ ?_
        refine jj_g_M_text h  fl_M_22 d_M_putQuoted_37 ?_
        refine jj_iload_n h d_M_putQuoted_40 rfl ?_
        refine jj_iload_n h d_M_putQuoted_41 rfl ?_
        refine jj_iadd h d_M_putQuoted_42 ?_
        refine jj_iconst h d_M_putQuoted_43 ?_
        refine jj_iadd h d_M_putQuoted_44 ?_
        refine jj_iaload (N := 1400) h (by decide) rfl (by decide) (by omega) (by omega) d_M_putQuoted_45 ?_
        rw [hX, l3]
        refine jj_bipush h d_M_putQuoted_46 (by decide) ?_
        refine jj_icmp_ne h 61 d_M_putQuoted_48 (by decide) ⟨by omega, by omega⟩ ⟨by omega, by omega⟩ (fun q48 => absurd (by omega) q48) (fun _ => ?_)
        refine jj_aload_n h d_M_putQuoted_51 rfl ⟨_, rfl⟩ ?_
        refine jj_callV h (cM_putLine (by omega) (by omega)) cv_M_247 (ro_of he (by decide) (by decide)) rfl rfl (by decide) rfl rfl rfl (Nat.le_of_ble_eq_true rfl) d_M_putQuoted_52 (fun v m52 hv => ?_)
        obtain ⟨rfl, rfl⟩ := hv
        refine jj_iinc h d_M_putQuoted_55 rfl rfl ?_
        refine jj_goto h 172 d_M_putQuoted_58 (by decide) ?_
        refine jj_iinc h d_M_putQuoted_172 rfl rfl ?_
        refine jj_goto h 7 d_M_putQuoted_175 (by decide) ?_
        rw [show k + 1 + 1 = k + 2 by omega]
        exact ih (k + 2) 0 _ _ _ (by omega) (by omega) (by omega) (by omega) (by omega) st_same (by rw [List.length_append]; show ((A.length + 2 : Nat) : Int) ≤ _; omega) hm.line hT2
      · have hlf := lfB_slc (f := mem 187) (q := p + k) (e := p + n) (by omega) hl
        rw [slc_cons (by omega), qe_step _ _ _ hlf, ← List.append_assoc] at hT2
        have hz := fun z c (hz : z = if pnB (mem 187 (p + k)) (slc (mem 187) (p + k + 1) (p + n)) c then 1 else 0) => hz
        generalize ha : mem 187 (p + k) = a at *
        generalize hr : slc (mem 187) (p + k + 1) (p + n) = r at *
        obtain ⟨i1, i2, i3, i4, i5⟩ := it_r (c := a) (r := r) hc0 hc1
        have second : ∀ (m2 : mt_M), wc_ mem (A ++ cp_ a r col) m2 → m2 182 19 = cw_ a r col → JJ G X 0 0 m2 100 [some (vr G 182), some (vi p), some (vi n), some (vi k), some (vi a)] [] := by
          intro m2 hm2 hC2
          have ho2 := hm2.out
          have hl2 : (A ++ cp_ a r col).length ≤ A.length + 3 := by rw [List.length_append]; have : (cp_ a r col).length ≤ 3 := by { unfold cp_; split <;> split <;> decide }; omega
          have hX2 := hm2.row (r := 187) (by decide) (by decide)
          have hC3 : ∀ B, pL m2 B 182 19 = cw_ a r col := fun B => by rw [pL_M (by decide)]; exact hC2
          by_cases hp2 : pnB a r (cw_ a r col) = true
          · have e : it_ a r col = (cp_ a r col ++ [a], cw_ a r col + 1) := if_pos hp2
            rw [e] at hT2 i3
            generalize cw_ a r col = w at *
            generalize cp_ a r col = P at *
            have hT3 : A ++ (P ++ [a]) ++ qe_ (w + 1) r = T := hT2
            rw [← List.append_assoc, ← hr, show p + k + 1 = p + (k + 1) by omega] at hT3
            refine jj_aload_n h d_M_putQuoted_100 rfl ⟨_, rfl⟩ ?_
            refine jj_iload_n h d_M_putQuoted_101 rfl ?_
            refine jj_iload_n h d_M_putQuoted_102 rfl ?_
            refine jj_iload_n h d_M_putQuoted_103 rfl ?_
            refine jj_aload_n h d_M_putQuoted_104 rfl ⟨_, rfl⟩ ?_
            refine jj_g_M_column h  fl_M_241 d_M_putQuoted_105 ?_
            try simp only [hC2, hC3]
            refine jj_callV h (cM_plain (z := 1) hp hk0 (by omega) hpn (by rw [hX2]; exact hb) ⟨by omega, by omega⟩ (by rw [hX2, ha, hr, if_pos hp2])) cv_M_250 (ro_of he (by decide) (by decide)) rfl rfl (by decide) rfl rfl rfl (Nat.le_of_ble_eq_true rfl) d_M_putQuoted_108 (fun v m108 hv => ?_)
            obtain ⟨rfl, rfl⟩ := hv
            refine jj_if_eq h 133 d_M_putQuoted_111 (by decide) ⟨by decide, by decide⟩ (fun q111 => absurd q111 ((by decide))) (fun _ => ?_)
            refine jj_aload_n h d_M_putQuoted_114 rfl ⟨_, rfl⟩ ?_
            refine jj_iload h d_M_putQuoted_115 rfl ?_
            refine jj_callV h (cM_put (by omega) (by omega)) cv_M_238 (ro_of he (by decide) (by decide)) rfl rfl (by decide) rfl rfl rfl (Nat.le_of_ble_eq_true rfl) d_M_putQuoted_117 (fun v m117 hv => ?_)
            obtain ⟨rfl, rfl⟩ := hv
            refine jj_aload_n h d_M_putQuoted_120 rfl ⟨_, rfl⟩ ?_
            refine jj_dup h d_M_putQuoted_121 rfl ?_
            refine jj_g_M_column h  fl_M_241 d_M_putQuoted_122 ?_
            try simp only [hC2, hC3]
            refine jj_iconst h d_M_putQuoted_125 ?_
            refine jj_iadd h d_M_putQuoted_126 ?_
            refine jj_p_M_column h  fl_M_241 d_M_putQuoted_127 ?_
            refine jj_goto h 172 d_M_putQuoted_130 (by decide) ?_
            refine jj_iinc h d_M_putQuoted_172 rfl rfl ?_
            refine jj_goto h 7 d_M_putQuoted_175 (by decide) ?_
            exact ih (k + 1) (w + 1) _ _ _ (by omega) (by omega) (by omega) (by omega) (by rw [e] at i2; exact i2) st_same (by rw [List.length_append]; show (((A ++ P).length + 1 : Nat) : Int) ≤ _; omega) ((hm2.put [a]).col _) hT3
          · have e : it_ a r col = (cp_ a r col ++ [61, dg_ (a / 16), dg_ (a % 16)], cw_ a r col + 3) := if_neg hp2
            rw [e] at hT2 i3
            generalize cw_ a r col = w at *
            generalize cp_ a r col = P at *
            have hT3 : A ++ (P ++ [61, dg_ (a / 16), dg_ (a % 16)]) ++ qe_ (w + 3) r = T := hT2
            rw [← List.append_assoc, ← hr, show p + k + 1 = p + (k + 1) by omega] at hT3
            have hC4 : ∀ (m : mt_M) (B : List Int), pL m B 182 19 = m 182 19 := fun m B => pL_M (by decide) B m
            refine jj_aload_n h d_M_putQuoted_100 rfl ⟨_, rfl⟩ ?_
            refine jj_iload_n h d_M_putQuoted_101 rfl ?_
            refine jj_iload_n h d_M_putQuoted_102 rfl ?_
            refine jj_iload_n h d_M_putQuoted_103 rfl ?_
            refine jj_aload_n h d_M_putQuoted_104 rfl ⟨_, rfl⟩ ?_
            refine jj_g_M_column h  fl_M_241 d_M_putQuoted_105 ?_
            try simp only [hC4, hC2]
            refine jj_callV h (cM_plain (z := 0) hp hk0 (by omega) hpn (by rw [hX2]; exact hb) ⟨by omega, by omega⟩ (by rw [hX2, ha, hr, if_neg hp2])) cv_M_250 (ro_of he (by decide) (by decide)) rfl rfl (by decide) rfl rfl rfl (Nat.le_of_ble_eq_true rfl) d_M_putQuoted_108 (fun v m108 hv => ?_)
            obtain ⟨rfl, rfl⟩ := hv
            refine jj_if_eq h 133 d_M_putQuoted_111 (by decide) ⟨by decide, by decide⟩ (fun _ => ?_) (fun q111 => absurd (rfl) q111)
            refine jj_aload_n h d_M_putQuoted_133 rfl ⟨_, rfl⟩ ?_
            refine jj_bipush h d_M_putQuoted_134 (by decide) ?_
            refine jj_callV h (cM_put (by omega) (by omega)) cv_M_238 (ro_of he (by decide) (by decide)) rfl rfl (by decide) rfl rfl rfl (Nat.le_of_ble_eq_true rfl) d_M_putQuoted_136 (fun v m136 hv => ?_)
            obtain ⟨rfl, rfl⟩ := hv
            refine jj_aload_n h d_M_putQuoted_139 rfl ⟨_, rfl⟩ ?_
            refine jj_iload h d_M_putQuoted_140 rfl ?_
            refine jj_iconst h d_M_putQuoted_142 ?_
            refine jj_ishr h d_M_putQuoted_143 ?_
            rw [ishr_k 4 (P := 16) (by decide) (by decide) (by omega) (by omega)]
            refine jj_callS h (cM_digit (by omega) (by omega)) cv_M_254 (ro_of he (by decide) (by decide)) rfl rfl rfl (Nat.le_of_ble_eq_true rfl) d_M_putQuoted_144 (fun v m144 hv => ?_)
            obtain ⟨rfl, rfl⟩ := hv
            refine jj_callV h (cM_put (by simp only [pL_out, List.length_cons, List.length_nil]; omega) (by simp only [pL_out, List.length_cons, List.length_nil]; omega)) cv_M_238 (ro_of he (by decide) (by decide)) rfl rfl (by decide) rfl rfl rfl (Nat.le_of_ble_eq_true rfl) d_M_putQuoted_147 (fun v m147 hv => ?_)
            obtain ⟨rfl, rfl⟩ := hv
            refine jj_aload_n h d_M_putQuoted_150 rfl ⟨_, rfl⟩ ?_
            refine jj_iload h d_M_putQuoted_151 rfl ?_
            refine jj_bipush h d_M_putQuoted_153 (by decide) ?_
            refine jj_iand h d_M_putQuoted_155 ?_
            rw [iand_k 4 (P := 16) (by decide) (by decide) (by omega) (by omega)]
            refine jj_callS h (cM_digit (by omega) (by omega)) cv_M_254 (ro_of he (by decide) (by decide)) rfl rfl rfl (Nat.le_of_ble_eq_true rfl) d_M_putQuoted_156 (fun v m156 hv => ?_)
            obtain ⟨rfl, rfl⟩ := hv
            refine jj_callV h (cM_put (by simp only [pL_out, List.length_cons, List.length_nil]; omega) (by simp only [pL_out, List.length_cons, List.length_nil]; omega)) cv_M_238 (ro_of he (by decide) (by decide)) rfl rfl (by decide) rfl rfl rfl (Nat.le_of_ble_eq_true rfl) d_M_putQuoted_159 (fun v m159 hv => ?_)
            obtain ⟨rfl, rfl⟩ := hv
            refine jj_aload_n h d_M_putQuoted_162 rfl ⟨_, rfl⟩ ?_
            refine jj_dup h d_M_putQuoted_163 rfl ?_
            refine jj_g_M_column h  fl_M_241 d_M_putQuoted_164 ?_
            try simp only [hC4, hC2]
            refine jj_iconst h d_M_putQuoted_167 ?_
            refine jj_iadd h d_M_putQuoted_168 ?_
            refine jj_p_M_column h  fl_M_241 d_M_putQuoted_169 ?_
            refine jj_iinc h d_M_putQuoted_172 rfl rfl ?_
            refine jj_goto h 7 d_M_putQuoted_175 (by decide) ?_
            exact ih (k + 1) (w + 3) _ _ _ (by omega) (by omega) (by omega) (by omega) (by rw [e] at i2; exact i2) st_same (by rw [List.length_append]; show (((A ++ P).length + 3 : Nat) : Int) ≤ _; omega) ((hm2.put [61, dg_ (a / 16), dg_ (a % 16)]).col _) hT3
        have first : JJ G X 0 0 m 61 [some (vr G 182), some (vi p), some (vi n), some (vi k), some (vi a)] [] := by
          by_cases hp2 : pnB a r col = true
          · have hw : (30 < col + (if pnB a r col then 1 else 3)) = (30 < col + 1) := by rw [if_pos hp2]
            refine jj_aload_n h d_M_putQuoted_61 rfl ⟨_, rfl⟩ ?_
            refine jj_g_M_column h  fl_M_241 d_M_putQuoted_62 ?_
            try simp only [hC]
            refine jj_aload_n h d_M_putQuoted_65 rfl ⟨_, rfl⟩ ?_
            refine jj_iload_n h d_M_putQuoted_66 rfl ?_
            refine jj_iload_n h d_M_putQuoted_67 rfl ?_
            refine jj_iload_n h d_M_putQuoted_68 rfl ?_
            refine jj_aload_n h d_M_putQuoted_69 rfl ⟨_, rfl⟩ ?_
            refine jj_g_M_column h  fl_M_241 d_M_putQuoted_70 ?_
            try simp only [hC]
            refine jj_callV h (cM_plain (z := 1) hp hk0 (by omega) hpn (by rw [hX]; exact hb) ⟨by omega, by omega⟩ (by rw [hX, ha, hr, if_pos hp2])) cv_M_250 (ro_of he (by decide) (by decide)) rfl rfl (by decide) rfl rfl rfl (Nat.le_of_ble_eq_true rfl) d_M_putQuoted_73 (fun v m73 hv => ?_)
            obtain ⟨rfl, rfl⟩ := hv
            refine jj_if_eq h 83 d_M_putQuoted_76 (by decide) ⟨by decide, by decide⟩ (fun q76 => absurd q76 ((by decide))) (fun _ => ?_)
            refine jj_iconst h d_M_putQuoted_79 ?_
            refine jj_goto h 84 d_M_putQuoted_80 (by decide) ?_
            refine jj_iadd h d_M_putQuoted_84 ?_
            refine jj_bipush h d_M_putQuoted_85 (by decide) ?_
            refine jj_icmp_le h 100 d_M_putQuoted_87 (by decide) ⟨by omega, by omega⟩ ⟨by omega, by omega⟩ (fun q87 => ?_) (fun q87 => ?_)
            · obtain ⟨e1, e2⟩ := it_n (by rw [hw]; omega)
              exact second m (by rw [e2, List.append_nil]; exact hm) (by rw [e1]; exact hC)
            · refine jj_aload_n h d_M_putQuoted_90 rfl ⟨_, rfl⟩ ?_
              refine jj_bipush h d_M_putQuoted_91 (by decide) ?_
              refine jj_callV h (cM_put (by omega) (by omega)) cv_M_238 (ro_of he (by decide) (by decide)) rfl rfl (by decide) rfl rfl rfl (Nat.le_of_ble_eq_true rfl) d_M_putQuoted_93 (fun v m93 hv => ?_)
              obtain ⟨rfl, rfl⟩ := hv
              refine jj_aload_n h d_M_putQuoted_96 rfl ⟨_, rfl⟩ ?_
              refine jj_callV h (cM_putLine (by simp only [pL_out, List.length_cons, List.length_nil]; omega) (by simp only [pL_out, List.length_cons, List.length_nil]; omega)) cv_M_247 (ro_of he (by decide) (by decide)) rfl rfl (by decide) rfl rfl rfl (Nat.le_of_ble_eq_true rfl) d_M_putQuoted_97 (fun v m97 hv => ?_)
              obtain ⟨rfl, rfl⟩ := hv
              obtain ⟨e1, e2⟩ := it_w (by rw [hw]; omega)
              refine second _ ?_ (by rw [e1]; exact st_same)
              rw [e2, show [61, 13, 10] = [61] ++ ([13, 10] : List Int) from rfl, ← List.append_assoc]
              exact (hm.put [61]).line
          · have hw : (30 < col + (if pnB a r col then 1 else 3)) = (30 < col + 3) := by rw [if_neg hp2]
            refine jj_aload_n h d_M_putQuoted_61 rfl ⟨_, rfl⟩ ?_
            refine jj_g_M_column h  fl_M_241 d_M_putQuoted_62 ?_
            try simp only [hC]
            refine jj_aload_n h d_M_putQuoted_65 rfl ⟨_, rfl⟩ ?_
            refine jj_iload_n h d_M_putQuoted_66 rfl ?_
            refine jj_iload_n h d_M_putQuoted_67 rfl ?_
            refine jj_iload_n h d_M_putQuoted_68 rfl ?_
            refine jj_aload_n h d_M_putQuoted_69 rfl ⟨_, rfl⟩ ?_
            refine jj_g_M_column h  fl_M_241 d_M_putQuoted_70 ?_
            try simp only [hC]
            refine jj_callV h (cM_plain (z := 0) hp hk0 (by omega) hpn (by rw [hX]; exact hb) ⟨by omega, by omega⟩ (by rw [hX, ha, hr, if_neg hp2])) cv_M_250 (ro_of he (by decide) (by decide)) rfl rfl (by decide) rfl rfl rfl (Nat.le_of_ble_eq_true rfl) d_M_putQuoted_73 (fun v m73 hv => ?_)
            obtain ⟨rfl, rfl⟩ := hv
            refine jj_if_eq h 83 d_M_putQuoted_76 (by decide) ⟨by decide, by decide⟩ (fun _ => ?_) (fun q76 => absurd (rfl) q76)
            refine jj_iconst h d_M_putQuoted_83 ?_
            refine jj_iadd h d_M_putQuoted_84 ?_
            refine jj_bipush h d_M_putQuoted_85 (by decide) ?_
            refine jj_icmp_le h 100 d_M_putQuoted_87 (by decide) ⟨by omega, by omega⟩ ⟨by omega, by omega⟩ (fun q87 => ?_) (fun q87 => ?_)
            · obtain ⟨e1, e2⟩ := it_n (by rw [hw]; omega)
              exact second m (by rw [e2, List.append_nil]; exact hm) (by rw [e1]; exact hC)
            · refine jj_aload_n h d_M_putQuoted_90 rfl ⟨_, rfl⟩ ?_
              refine jj_bipush h d_M_putQuoted_91 (by decide) ?_
              refine jj_callV h (cM_put (by omega) (by omega)) cv_M_238 (ro_of he (by decide) (by decide)) rfl rfl (by decide) rfl rfl rfl (Nat.le_of_ble_eq_true rfl) d_M_putQuoted_93 (fun v m93 hv => ?_)
              obtain ⟨rfl, rfl⟩ := hv
              refine jj_aload_n h d_M_putQuoted_96 rfl ⟨_, rfl⟩ ?_
              refine jj_callV h (cM_putLine (by simp only [pL_out, List.length_cons, List.length_nil]; omega) (by simp only [pL_out, List.length_cons, List.length_nil]; omega)) cv_M_247 (ro_of he (by decide) (by decide)) rfl rfl (by decide) rfl rfl rfl (Nat.le_of_ble_eq_true rfl) d_M_putQuoted_97 (fun v m97 hv => ?_)
              obtain ⟨rfl, rfl⟩ := hv
              obtain ⟨e1, e2⟩ := it_w (by rw [hw]; omega)
              refine second _ ?_ (by rw [e1]; exact st_same)
              rw [e2, show [61, 13, 10] = [61] ++ ([13, 10] : List Int) from rfl, ← List.append_assoc]
              exact (hm.put [61]).line
        refine jj_iload_n h d_M_putQuoted_7 rfl ?_
        refine jj_iload_n h d_M_putQuoted_8 rfl ?_
        refine jj_icmp_ge h 178 d_M_putQuoted_9 (by decide) ⟨by omega, by omega⟩ ⟨by omega, by omega⟩ (fun q9 => absurd q9 (by omega)) (fun _ => ?_)
        refine jj_aload_n h d_M_putQuoted_12 rfl ⟨_, rfl⟩ ?_
        refine jj_g_M_text h  fl_M_22 d_M_putQuoted_13 ?_
        refine jj_iload_n h d_M_putQuoted_16 rfl ?_
        refine jj_iload_n h d_M_putQuoted_17 rfl ?_
        refine jj_iadd h d_M_putQuoted_18 ?_
        refine jj_iaload (N := 1400) h (by decide) rfl (by decide) (by omega) (by omega) d_M_putQuoted_19 ?_
        rw [hX, ha]
        refine jj_istore h d_M_putQuoted_20 (Nat.le_of_ble_eq_true rfl) rfl ?_
        refine jj_iload h d_M_putQuoted_22 rfl ?_
        refine jj_bipush h d_M_putQuoted_24 (by decide) ?_
        refine jj_icmp_ne h 61 d_M_putQuoted_26 (by decide) ⟨by omega, by omega⟩ ⟨by omega, by omega⟩ (fun q26 => ?_) (fun q26 => ?_)
        · exact first
        · refine jj_iload_n h d_M_putQuoted_29 rfl ?_
          refine jj_iconst h d_M_putQuoted_30 ?_
          refine jj_iadd h d_M_putQuoted_31 ?_
          refine jj_iload_n h d_M_putQuoted_32 rfl ?_
          refine jj_icmp_ge h 61 d_M_putQuoted_33 (by decide) ⟨by omega, by omega⟩ ⟨by omega, by omega⟩ (fun q33 => ?_) (fun q33 => ?_)
          · exact first
          · have bd := hb (p + k + 1) (by omega) (by omega)
            refine jj_aload_n h d_M_putQuoted_36 rfl ⟨_, rfl⟩ ?_
            refine jj_g_M_text h  fl_M_22 d_M_putQuoted_37 ?_
            refine jj_iload_n h d_M_putQuoted_40 rfl ?_
            refine jj_iload_n h d_M_putQuoted_41 rfl ?_
            refine jj_iadd h d_M_putQuoted_42 ?_
            refine jj_iconst h d_M_putQuoted_43 ?_
            refine jj_iadd h d_M_putQuoted_44 ?_
            refine jj_iaload (N := 1400) h (by decide) rfl (by decide) (by omega) (by omega) d_M_putQuoted_45 ?_
            rw [hX]
            refine jj_bipush h d_M_putQuoted_46 (by decide) ?_
            refine jj_icmp_ne h 61 d_M_putQuoted_48 (by decide) ⟨by omega, by omega⟩ ⟨by omega, by omega⟩ (fun q48 => ?_) (fun q48 => ?_)
            · exact first
            · exact absurd ⟨by omega, by omega, by omega⟩ hl
  refine jj_aload_n h d_M_putQuoted_0 rfl ⟨_, rfl⟩ ?_
  refine jj_iconst h d_M_putQuoted_1 ?_
  refine jj_p_M_column h  fl_M_241 d_M_putQuoted_2 ?_
  refine jj_iconst h d_M_putQuoted_5 ?_
  refine jj_istore_n h d_M_putQuoted_6 (Nat.le_of_ble_eq_true rfl) rfl ?_
  exact loop n.toNat 0 0 [] _ _ (by omega) (by omega) (by omega) (by omega) (by omega) st_same (by show ((0 : Nat) : Int) ≤ _; omega) ((wc_.nil mem).col 0) (by rw [Int.add_zero]; exact hT)
