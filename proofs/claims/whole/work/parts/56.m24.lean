/-! The reference writes: a byte, a line's end, a text, letters and digits. -/
def pt_ (m : mt_M) (c : Int) : mt_M := st_ (if m 182 17 < 1800 then st_ m 190 (m 182 17) c else m) 182 17 (m 182 17 + 1)
def pL (m : mt_M) : List Int → mt_M
  | [] => m
  | c :: t => pL (pt_ m c) t
theorem pt_M {m : mt_M} {c z : Int} (h : z ≠ 17) : pt_ m c 182 z = m 182 z := by
  unfold pt_; rw [st_ne (Or.inr h)]; split
  · rw [st_row (by decide)]
  · rfl
theorem pt_row {m : mt_M} {c : Int} {r : Nat} (h : r ≠ 182) (h2 : r ≠ 190) : pt_ m c r = m r := by
  unfold pt_; rw [st_row h]; split
  · rw [st_row h2]
  · rfl
theorem pt_out {m : mt_M} {c : Int} : pt_ m c 182 17 = m 182 17 + 1 := by unfold pt_; rw [st_same]
theorem pt_col {m : mt_M} {c k : Int} : pt_ (st_ m 182 19 k) c = st_ (pt_ m c) 182 19 k := by
  unfold pt_
  rw [st_ne (by decide)]
  by_cases h : m 182 17 < 1800
  · rw [if_pos h, if_pos h, st_comm (r := 182) (r2 := 190) (Or.inl (by decide)), st_comm (r := 182) (r2 := 182) (by decide)]
  · rw [if_neg h, if_neg h, st_comm (r := 182) (r2 := 182) (by decide)]
theorem pL_app : ∀ (A B : List Int) (m : mt_M), pL m (A ++ B) = pL (pL m A) B
  | [], _, _ => rfl
  | a :: t, B, m => by show pL (pt_ m a) (t ++ B) = pL (pL (pt_ m a) t) B; rw [pL_app t]
theorem pL_M {z : Int} (h : z ≠ 17) : ∀ (A : List Int) (m : mt_M), pL m A 182 z = m 182 z
  | [], _ => rfl
  | a :: t, m => by show pL (pt_ m a) t 182 z = m 182 z; rw [pL_M h t, pt_M h]
theorem pL_row {r : Nat} (h : r ≠ 182) (h2 : r ≠ 190) : ∀ (A : List Int) (m : mt_M), pL m A r = m r
  | [], _ => rfl
  | a :: t, m => by show pL (pt_ m a) t r = m r; rw [pL_row h h2 t, pt_row h h2]
theorem pL_out : ∀ (A : List Int) (m : mt_M), pL m A 182 17 = m 182 17 + A.length
  | [], m => by show m 182 17 = m 182 17 + ((0 : Nat) : Int); omega
  | a :: t, m => by show pL (pt_ m a) t 182 17 = m 182 17 + ((t.length + 1 : Nat) : Int); rw [pL_out t, pt_out]; omega
theorem pL_col {k : Int} : ∀ (A : List Int) (m : mt_M), pL (st_ m 182 19 k) A = st_ (pL m A) 182 19 k
  | [], _ => rfl
  | a :: t, m => by show pL (pt_ (st_ m 182 19 k) a) t = st_ (pL (pt_ m a) t) 182 19 k; rw [pt_col, pL_col t]
/-- while the file has room it is the list -/
theorem pL_file : ∀ (A : List Int) (m : mt_M) (o : Int), m 182 17 = o → o + A.length ≤ 1800 → pL m A 190 = wrL m 190 o A 190
  | [], _, _, _, _ => rfl
  | a :: t, m, o, ho, hl => by
    rw [List.length_cons] at hl
    show pL (pt_ m a) t 190 = wrL (st_ m 190 o a) 190 (o + 1) t 190
    rw [pL_file t (pt_ m a) (o + 1) (by rw [pt_out, ho]) (by omega)]
    have hw : ∀ (B : List Int) (m1 m2 : mt_M) (p : Int), m1 190 = m2 190 → wrL m1 190 p B 190 = wrL m2 190 p B 190 := by
      intro B
      induction B with
      | nil => intro m1 m2 p h; exact h
      | cons b u ih => intro m1 m2 p h; exact ih _ _ _ (by funext z; rw [st_at, st_at, h])
    apply hw
    unfold pt_
    rw [st_row (by decide), ho, if_pos (by omega)]
theorem cM_put {G : mt_G} {l : Launch} {mem : mt_M} {c : Int} (h0 : 0 ≤ mem 182 17) (h1 : mem 182 17 ≤ 2000000000) : CT G l y_M_put c_M_put 2 none 1 [vr G 182, vi c] mem (fun v m' => v = none ∧ pL mem [c] = m') := by
  refine CT.intro (by decide) rfl (Nat.le_of_ble_eq_true rfl) (fun X h he => ?_)
  have hs : (st_ mem 190 (mem 182 17) c) 182 17 = mem 182 17 := st_ne (Or.inl (by decide))
  refine jj_aload_n h d_M_put_0 rfl ⟨_, rfl⟩ ?_
  refine jj_g_M_out h  fl_M_235 d_M_put_1 ?_
  try simp only [hs]
  refine jj_sipush h d_M_put_4 (by decide) ?_
  refine jj_icmp_ge h 20 d_M_put_7 (by decide) ⟨by omega, by omega⟩ ⟨by omega, by omega⟩ (fun q7 => ?_) (fun q7 => ?_)
  · refine jj_aload_n h d_M_put_20 rfl ⟨_, rfl⟩ ?_
    refine jj_dup h d_M_put_21 rfl ?_
    refine jj_g_M_out h  fl_M_235 d_M_put_22 ?_
    try simp only [hs]
    refine jj_iconst h d_M_put_25 ?_
    refine jj_iadd h d_M_put_26 ?_
    refine jj_p_M_out h  fl_M_235 d_M_put_27 ?_
    refine jj_vret h he d_M_put_30 ?_
    exact ⟨rfl, by show pt_ mem c = _; unfold pt_; rw [if_neg (by omega)]⟩
  · refine jj_aload_n h d_M_put_10 rfl ⟨_, rfl⟩ ?_
    refine jj_g_M_file h  fl_M_31 d_M_put_11 ?_
    try simp only [hs]
    refine jj_aload_n h d_M_put_14 rfl ⟨_, rfl⟩ ?_
    refine jj_g_M_out h  fl_M_235 d_M_put_15 ?_
    try simp only [hs]
    refine jj_iload_n h d_M_put_18 rfl ?_
    refine jj_iastore (N := 1800) h (by decide) (fun _ => rfl) (by decide) (by omega) (by omega) d_M_put_19 ?_
    refine jj_aload_n h d_M_put_20 rfl ⟨_, rfl⟩ ?_
    refine jj_dup h d_M_put_21 rfl ?_
    refine jj_g_M_out h  fl_M_235 d_M_put_22 ?_
    try simp only [hs]
    refine jj_iconst h d_M_put_25 ?_
    refine jj_iadd h d_M_put_26 ?_
    refine jj_p_M_out h  fl_M_235 d_M_put_27 ?_
    refine jj_vret h he d_M_put_30 ?_
    exact ⟨rfl, by show pt_ mem c = _; unfold pt_; rw [if_pos (by omega)]⟩
theorem cM_putLine {G : mt_G} {l : Launch} {mem : mt_M} (h0 : 0 ≤ mem 182 17) (h1 : mem 182 17 ≤ 1900000000) : CT G l y_M_putLine c_M_putLine 1 none 2 [vr G 182] mem (fun v m' => v = none ∧ st_ (pL mem [13, 10]) 182 19 0 = m') := by
  refine CT.intro (by decide) rfl (Nat.le_of_ble_eq_true rfl) (fun X h he => ?_)
  have ho : pL mem [13] 182 17 = mem 182 17 + 1 := pL_out _ _
  refine jj_aload_n h d_M_putLine_0 rfl ⟨_, rfl⟩ ?_
  refine jj_bipush h d_M_putLine_1 (by decide) ?_
  refine jj_callV h (cM_put h0 (by omega)) cv_M_238 (ro_of he (by decide) (by decide)) rfl rfl (by decide) rfl rfl rfl (Nat.le_of_ble_eq_true rfl) d_M_putLine_3 (fun v m3 hv => ?_)
  obtain ⟨rfl, rfl⟩ := hv
  refine jj_aload_n h d_M_putLine_6 rfl ⟨_, rfl⟩ ?_
  refine jj_bipush h d_M_putLine_7 (by decide) ?_
  refine jj_callV h (cM_put (by omega) (by omega)) cv_M_238 (ro_of he (by decide) (by decide)) rfl rfl (by decide) rfl rfl rfl (Nat.le_of_ble_eq_true rfl) d_M_putLine_9 (fun v m9 hv => ?_)
  obtain ⟨rfl, rfl⟩ := hv
  refine jj_aload_n h d_M_putLine_12 rfl ⟨_, rfl⟩ ?_
  refine jj_iconst h d_M_putLine_13 ?_
  refine jj_p_M_column h  fl_M_241 d_M_putLine_14 ?_
  refine jj_vret h he d_M_putLine_17 ?_
  exact ⟨rfl, rfl⟩
theorem cM_putText {G : mt_G} {l : Launch} {mem : mt_M} {p n : Int} (h0 : 0 ≤ mem 182 17) (h1 : mem 182 17 ≤ 1900000000) (hp : 0 ≤ p) (hn : 0 ≤ n) (hpn : p + n ≤ 1400) : CT G l y_M_putText c_M_putText 4 none 2 [vr G 182, vi p, vi n] mem (fun v m' => v = none ∧ pL mem (slc (mem 187) p (p + n)) = m') := by
  refine CT.intro (by decide) rfl (Nat.le_of_ble_eq_true rfl) (fun X h he => ?_)
  have loop : ∀ (j : Nat) (k : Int), (n - k).toNat = j → 0 ≤ k → k ≤ n → JJ G X 0 0 (pL mem (slc (mem 187) p (p + k))) 2 [some (vr G 182), some (vi p), some (vi n), some (vi k)] [] := by
    intro j
    induction j with
    | zero =>
      intro k hj hk0 hk1
      have hkn : k = n := by omega
      subst hkn
      refine jj_iload_n h d_M_putText_2 rfl ?_
      refine jj_iload_n h d_M_putText_3 rfl ?_
      refine jj_icmp_ge h 25 d_M_putText_4 (by decide) ⟨by omega, by omega⟩ ⟨by omega, by omega⟩ (fun _ => ?_) (fun q4 => absurd (by omega) q4)
      refine jj_vret h he d_M_putText_25 ?_
      exact ⟨rfl, rfl⟩
    | succ j ih =>
      intro k hj hk0 hk1
      have ho := pL_out (slc (mem 187) p (p + k)) mem
      rw [slc_lenI (by omega)] at ho
      have hX : pL mem (slc (mem 187) p (p + k)) 187 = mem 187 := pL_row (by decide) (by decide) _ _
      refine jj_iload_n h d_M_putText_2 rfl ?_
      refine jj_iload_n h d_M_putText_3 rfl ?_
      refine jj_icmp_ge h 25 d_M_putText_4 (by decide) ⟨by omega, by omega⟩ ⟨by omega, by omega⟩ (fun q4 => absurd q4 (by omega)) (fun _ => ?_)
      refine jj_aload_n h d_M_putText_7 rfl ⟨_, rfl⟩ ?_
      refine jj_aload_n h d_M_putText_8 rfl ⟨_, rfl⟩ ?_
      refine jj_g_M_text h  fl_M_22 d_M_putText_9 ?_
      refine jj_iload_n h d_M_putText_12 rfl ?_
      refine jj_iload_n h d_M_putText_13 rfl ?_
      refine jj_iadd h d_M_putText_14 ?_
      refine jj_iaload (N := 1400) h (by decide) rfl (by decide) (by omega) (by omega) d_M_putText_15 ?_
      rw [hX]
      refine jj_callV h (cM_put (by omega) (by omega)) cv_M_238 (ro_of he (by decide) (by decide)) rfl rfl (by decide) rfl rfl rfl (Nat.le_of_ble_eq_true rfl) d_M_putText_16 (fun v m16 hv => ?_)
      obtain ⟨rfl, rfl⟩ := hv
      refine jj_iinc h d_M_putText_19 rfl rfl ?_
      refine jj_goto h 2 d_M_putText_22 (by decide) ?_
      have := ih (k + 1) (by omega) (by omega) (by omega)
      rw [show p + (k + 1) = p + k + 1 by omega, slc_snoc (by omega), pL_app] at this
      exact this
  refine jj_iconst h d_M_putText_0 ?_
  refine jj_istore_n h d_M_putText_1 (Nat.le_of_ble_eq_true rfl) rfl ?_
  have := loop n.toNat 0 (by omega) (by omega) (by omega)
  rw [slc_nil (by omega)] at this
  exact this
/-- a letter of base64 -/
def tl_ (v : Int) : Int := if v < 26 then 65 + v else if v < 52 then 71 + v else if v < 62 then v - 4 else if v = 62 then 43 else 47
theorem cM_toLetter {G : mt_G} {l : Launch} {mem : mt_M} {v : Int} (h0 : 0 ≤ v) (h1 : v < 64) : CT G l y_M_toLetter c_M_toLetter 1 (some .int) 1 [vi v] mem (fun x m' => x = some (vi (tl_ v)) ∧ mem = m') := by
  refine CT.intro (by decide) rfl (Nat.le_of_ble_eq_true rfl) (fun X h he => ?_)
  refine jj_iload_n h d_M_toLetter_0 rfl ?_
  refine jj_bipush h d_M_toLetter_1 (by decide) ?_
  refine jj_icmp_ge h 11 d_M_toLetter_3 (by decide) ⟨by omega, by omega⟩ ⟨by omega, by omega⟩ (fun q3 => ?_) (fun q3 => ?_)
  · refine jj_iload_n h d_M_toLetter_11 rfl ?_
    refine jj_bipush h d_M_toLetter_12 (by decide) ?_
    refine jj_icmp_ge h 22 d_M_toLetter_14 (by decide) ⟨by omega, by omega⟩ ⟨by omega, by omega⟩ (fun q14 => ?_) (fun q14 => ?_)
    · refine jj_iload_n h d_M_toLetter_22 rfl ?_
      refine jj_bipush h d_M_toLetter_23 (by decide) ?_
      refine jj_icmp_ge h 34 d_M_toLetter_25 (by decide) ⟨by omega, by omega⟩ ⟨by omega, by omega⟩ (fun q25 => ?_) (fun q25 => ?_)
      · refine jj_iload_n h d_M_toLetter_34 rfl ?_
        refine jj_bipush h d_M_toLetter_35 (by decide) ?_
        refine jj_icmp_ne h 45 d_M_toLetter_37 (by decide) ⟨by omega, by omega⟩ ⟨by omega, by omega⟩ (fun q37 => ?_) (fun q37 => ?_)
        · refine jj_bipush h d_M_toLetter_45 (by decide) ?_
          refine jj_iret h he d_M_toLetter_47 ?_
          exact ⟨by unfold tl_; rw [if_neg (by omega), if_neg (by omega), if_neg (by omega), if_neg (by omega)], rfl⟩
        · refine jj_bipush h d_M_toLetter_40 (by decide) ?_
          refine jj_goto h 47 d_M_toLetter_42 (by decide) ?_
          refine jj_iret h he d_M_toLetter_47 ?_
          exact ⟨by unfold tl_; rw [if_neg (by omega), if_neg (by omega), if_neg (by omega), if_pos (by omega)], rfl⟩
      · refine jj_iload_n h d_M_toLetter_28 rfl ?_
        refine jj_iconst h d_M_toLetter_29 ?_
        refine jj_isub h d_M_toLetter_30 ?_
        refine jj_goto h 47 d_M_toLetter_31 (by decide) ?_
        refine jj_iret h he d_M_toLetter_47 ?_
        exact ⟨by unfold tl_; rw [if_neg (by omega), if_neg (by omega), if_pos (by omega)], rfl⟩
    · refine jj_bipush h d_M_toLetter_17 (by decide) ?_
      refine jj_iload_n h d_M_toLetter_19 rfl ?_
      refine jj_iadd h d_M_toLetter_20 ?_
      refine jj_iret h he d_M_toLetter_21 ?_
      exact ⟨by unfold tl_; rw [if_neg (by omega), if_pos (by omega)], rfl⟩
  · refine jj_bipush h d_M_toLetter_6 (by decide) ?_
    refine jj_iload_n h d_M_toLetter_8 rfl ?_
    refine jj_iadd h d_M_toLetter_9 ?_
    refine jj_iret h he d_M_toLetter_10 ?_
    exact ⟨by unfold tl_; rw [if_pos (by omega)], rfl⟩
/-- a digit of sixteen -/
def dg_ (v : Int) : Int := if v < 10 then 48 + v else 55 + v
theorem cM_digit {G : mt_G} {l : Launch} {mem : mt_M} {v : Int} (h0 : 0 ≤ v) (h1 : v < 64) : CT G l y_M_digit c_M_digit 1 (some .int) 1 [vi v] mem (fun x m' => x = some (vi (dg_ v)) ∧ mem = m') := by
  refine CT.intro (by decide) rfl (Nat.le_of_ble_eq_true rfl) (fun X h he => ?_)
  refine jj_iload_n h d_M_digit_0 rfl ?_
  refine jj_bipush h d_M_digit_1 (by decide) ?_
  refine jj_icmp_ge h 13 d_M_digit_3 (by decide) ⟨by omega, by omega⟩ ⟨by omega, by omega⟩ (fun q3 => ?_) (fun q3 => ?_)
  · refine jj_bipush h d_M_digit_13 (by decide) ?_
    refine jj_iload_n h d_M_digit_15 rfl ?_
    refine jj_iadd h d_M_digit_16 ?_
    refine jj_iret h he d_M_digit_17 ?_
    exact ⟨by unfold dg_; rw [if_neg (by omega)], rfl⟩
  · refine jj_bipush h d_M_digit_6 (by decide) ?_
    refine jj_iload_n h d_M_digit_8 rfl ?_
    refine jj_iadd h d_M_digit_9 ?_
    refine jj_goto h 17 d_M_digit_10 (by decide) ?_
    refine jj_iret h he d_M_digit_17 ?_
    exact ⟨by unfold dg_; rw [if_pos (by omega)], rfl⟩
