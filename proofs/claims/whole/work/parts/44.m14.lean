/-! The reference: a field begins; the fields of an entity. -/
theorem cM_begins {G : mt_G} {l : Launch} {mem : mt_M} {e nf p sz en : Int} (h0 : 0 ≤ e) (h1 : e < 16) (hn : mem 185 (16 * e + 3) = nf) (hn0 : 0 ≤ nf) (hn1 : nf < 8) (hp : 0 ≤ p) (hs : 0 ≤ sz) (hps : p + sz < en) (hen : en ≤ 320) (hb : by_ (mem 184) p en) (hT : 0 ≤ mem 182 9) (hro : mem 182 9 + (en - p) ≤ 1400) : CT G l y_M_begins c_M_begins 7 none 2 [vr G 182, vi e, vi p, vi sz, vi en] mem (fun v m' => v = none ∧ ∃ m2 m4 : mt_M, ap_ (st_ (st_ mem 186 (4 * (8 * e + nf)) (mem 182 9)) 186 (4 * (8 * e + nf) + 1) sz) (slc (mem 184) p (p + sz)) m2 ∧ ap_ (st_ m2 186 (4 * (8 * e + nf) + 2) (m2 182 9)) (slc (mem 184) (p + sz + 1) en) m4 ∧ m' = st_ m4 185 (16 * e + 3) (nf + 1)) := by
  refine CT.intro (by decide) rfl (Nat.le_of_ble_eq_true rfl) (fun X h he => ?_)
  generalize hk : 4 * (8 * e + nf) = k at *
  generalize hm1 : st_ (st_ mem 186 k (mem 182 9)) 186 (k + 1) sz = m1 at *
  have s1 : m1 184 = mem 184 := by rw [← hm1, st_row (by decide), st_row (by decide)]
  have d1 : m1 185 = mem 185 := by rw [← hm1, st_row (by decide), st_row (by decide)]
  have t1 : m1 182 9 = mem 182 9 := by rw [← hm1, st_ne (by omega), st_ne (by omega)]
  have loop2 : ∀ (n : Nat) (q : Int) (m2 m : mt_M), (en - q).toNat = n → p + sz + 1 ≤ q → q ≤ en → ap_ m1 (slc (mem 184) p (p + sz)) m2 → ap_ (st_ m2 186 (k + 2) (m2 182 9)) (slc (mem 184) (p + sz + 1) q) m → JJ G X 0 0 m 84 [some (vr G 182), some (vi e), some (vi p), some (vi sz), some (vi en), some (vi k), some (vi q)] [] := by
    intro n
    induction n with
    | zero =>
      intro q m2 m q1 q2 q3 q4 q5
      have hq : q = en := by omega
      subst hq
      have d2 : m 185 (16 * e + 3) = nf := by rw [q5.row (by decide) (by decide), st_row (by decide), q4.row (by decide) (by decide), d1]; exact hn
      refine jj_iload h d_M_begins_84 rfl ?_
      refine jj_iload h d_M_begins_86 rfl ?_
      refine jj_icmp_ge h 108 d_M_begins_88 (by decide) ⟨by omega, by omega⟩ ⟨by omega, by omega⟩ (fun _ => ?_) (fun q88 => absurd (by omega) q88)
      refine jj_aload_n h d_M_begins_108 rfl ⟨_, rfl⟩ ?_
      refine jj_iload_n h d_M_begins_109 rfl ?_
      refine jj_iconst h d_M_begins_110 ?_
      refine jj_aload_n h d_M_begins_111 rfl ⟨_, rfl⟩ ?_
      refine jj_iload_n h d_M_begins_112 rfl ?_
      refine jj_iconst h d_M_begins_113 ?_
      refine jj_callV h (cM_of (by omega) (by omega)) cv_M_59 (ro_of he (by decide) (by decide)) rfl rfl (by decide) rfl rfl rfl (Nat.le_of_ble_eq_true rfl) d_M_begins_114 (fun v m114 hv => ?_)
      obtain ⟨rfl, rfl⟩ := hv
      rw [d2]
      refine jj_iconst h d_M_begins_117 ?_
      refine jj_iadd h d_M_begins_118 ?_
      refine jj_callV h (cM_set (by omega) (by omega)) cv_M_70 (ro_of he (by decide) (by decide)) rfl rfl (by decide) rfl rfl rfl (Nat.le_of_ble_eq_true rfl) d_M_begins_119 (fun v m119 hv => ?_)
      obtain ⟨rfl, rfl⟩ := hv
      refine jj_vret h he d_M_begins_122 ?_
      exact ⟨rfl, m2, m, q4, q5, rfl⟩
    | succ n ih =>
      intro q m2 m q1 q2 q3 q4 q5
      have hq3 := hb q (by omega) (by omega)
      have hs : m 184 = mem 184 := by rw [q5.row (by decide) (by decide), st_row (by decide), q4.row (by decide) (by decide)]; exact s1
      have e1 := q4.1
      have e2 := q5.1
      rw [slc_len] at e1 e2
      rw [st_ne (by omega)] at e2
      refine jj_iload h d_M_begins_84 rfl ?_
      refine jj_iload h d_M_begins_86 rfl ?_
      refine jj_icmp_ge h 108 d_M_begins_88 (by decide) ⟨by omega, by omega⟩ ⟨by omega, by omega⟩ (fun q88 => absurd q88 (by omega)) (fun _ => ?_)
      refine jj_aload_n h d_M_begins_91 rfl ⟨_, rfl⟩ ?_
      refine jj_aload_n h d_M_begins_92 rfl ⟨_, rfl⟩ ?_
      refine jj_g_M_src h  fl_M_13 d_M_begins_93 ?_
      try simp only [hs]
      refine jj_iload h d_M_begins_96 rfl ?_
      refine jj_iaload (N := 320) h (by decide) rfl (by decide) (by omega) (by omega) d_M_begins_98 ?_
      try simp only [hs]
      refine jj_callV h (cM_keep (by omega) (by omega)) cv_M_66 (ro_of he (by decide) (by decide)) rfl rfl (by decide) rfl rfl rfl (Nat.le_of_ble_eq_true rfl) d_M_begins_99 (fun v m99 hv => ?_)
      obtain ⟨rfl, rfl⟩ := hv
      refine jj_iinc h d_M_begins_102 rfl rfl ?_
      refine jj_goto h 84 d_M_begins_105 (by decide) ?_
      exact ih (q + 1) m2 _ (by omega) (by omega) (by omega) q4 (by rw [slc_snoc q2]; exact q5.k1 _)
  have loop1 : ∀ (n : Nat) (q : Int) (m : mt_M), (p + sz - q).toNat = n → p ≤ q → q ≤ p + sz → ap_ m1 (slc (mem 184) p q) m → JJ G X 0 0 m 39 [some (vr G 182), some (vi e), some (vi p), some (vi sz), some (vi en), some (vi k), some (vi q)] [] := by
    intro n
    induction n with
    | zero =>
      intro q m q1 q2 q3 q4
      have hq : q = p + sz := by omega
      subst hq
      refine jj_iload h d_M_begins_39 rfl ?_
      refine jj_iload_n h d_M_begins_41 rfl ?_
      refine jj_iload_n h d_M_begins_42 rfl ?_
      refine jj_iadd h d_M_begins_43 ?_
      refine jj_icmp_ge h 64 d_M_begins_44 (by decide) ⟨by omega, by omega⟩ ⟨by omega, by omega⟩ (fun _ => ?_) (fun q44 => absurd (by omega) q44)
      refine jj_aload_n h d_M_begins_64 rfl ⟨_, rfl⟩ ?_
      refine jj_g_M_field h  fl_M_19 d_M_begins_65 ?_
      refine jj_iload h d_M_begins_68 rfl ?_
      refine jj_iconst h d_M_begins_70 ?_
      refine jj_iadd h d_M_begins_71 ?_
      refine jj_aload_n h d_M_begins_72 rfl ⟨_, rfl⟩ ?_
      refine jj_g_M_textSize h  fl_M_56 d_M_begins_73 ?_
      refine jj_iastore (N := 512) h (by decide) (fun _ => rfl) (by decide) (by omega) (by omega) d_M_begins_76 ?_
      refine jj_iload_n h d_M_begins_77 rfl ?_
      refine jj_iload_n h d_M_begins_78 rfl ?_
      refine jj_iadd h d_M_begins_79 ?_
      refine jj_iconst h d_M_begins_80 ?_
      refine jj_iadd h d_M_begins_81 ?_
      refine jj_istore h d_M_begins_82 (Nat.le_of_ble_eq_true rfl) rfl ?_
      exact loop2 _ (p + sz + 1) m _ rfl (by omega) (by omega) q4 (by rw [slc_nil (Int.le_refl _)]; exact ap_.rf)
    | succ n ih =>
      intro q m q1 q2 q3 q4
      have hq3 := hb q (by omega) (by omega)
      have hs : m 184 = mem 184 := by rw [q4.row (by decide) (by decide)]; exact s1
      have e1 := q4.1
      rw [slc_len] at e1
      refine jj_iload h d_M_begins_39 rfl ?_
      refine jj_iload_n h d_M_begins_41 rfl ?_
      refine jj_iload_n h d_M_begins_42 rfl ?_
      refine jj_iadd h d_M_begins_43 ?_
      refine jj_icmp_ge h 64 d_M_begins_44 (by decide) ⟨by omega, by omega⟩ ⟨by omega, by omega⟩ (fun q44 => absurd q44 (by omega)) (fun _ => ?_)
      refine jj_aload_n h d_M_begins_47 rfl ⟨_, rfl⟩ ?_
      refine jj_aload_n h d_M_begins_48 rfl ⟨_, rfl⟩ ?_
      refine jj_g_M_src h  fl_M_13 d_M_begins_49 ?_
      try simp only [hs]
      refine jj_iload h d_M_begins_52 rfl ?_
      refine jj_iaload (N := 320) h (by decide) rfl (by decide) (by omega) (by omega) d_M_begins_54 ?_
      try simp only [hs]
      refine jj_callV h (cM_keep (by omega) (by omega)) cv_M_66 (ro_of he (by decide) (by decide)) rfl rfl (by decide) rfl rfl rfl (Nat.le_of_ble_eq_true rfl) d_M_begins_55 (fun v m55 hv => ?_)
      obtain ⟨rfl, rfl⟩ := hv
      refine jj_iinc h d_M_begins_58 rfl rfl ?_
      refine jj_goto h 39 d_M_begins_61 (by decide) ?_
      exact ih (q + 1) _ (by omega) (by omega) (by omega) (by rw [slc_snoc q2]; exact q4.k1 _)
  refine jj_iconst h d_M_begins_0 ?_
  refine jj_bipush h d_M_begins_1 (by decide) ?_
  refine jj_iload_n h d_M_begins_3 rfl ?_
  refine jj_imul h d_M_begins_4 ?_
  refine jj_aload_n h d_M_begins_5 rfl ⟨_, rfl⟩ ?_
  refine jj_iload_n h d_M_begins_6 rfl ?_
  refine jj_iconst h d_M_begins_7 ?_
  refine jj_callV h (cM_of (by omega) (by omega)) cv_M_59 (ro_of he (by decide) (by decide)) rfl rfl (by decide) rfl rfl rfl (Nat.le_of_ble_eq_true rfl) d_M_begins_8 (fun v m8 hv => ?_)
  obtain ⟨rfl, rfl⟩ := hv
  rw [hn]
  refine jj_iadd h d_M_begins_11 ?_
  refine jj_imul h d_M_begins_12 ?_
  rw [hk]
  refine jj_istore h d_M_begins_13 (Nat.le_of_ble_eq_true rfl) rfl ?_
  refine jj_aload_n h d_M_begins_15 rfl ⟨_, rfl⟩ ?_
  refine jj_g_M_field h  fl_M_19 d_M_begins_16 ?_
  refine jj_iload h d_M_begins_19 rfl ?_
  refine jj_aload_n h d_M_begins_21 rfl ⟨_, rfl⟩ ?_
  refine jj_g_M_textSize h  fl_M_56 d_M_begins_22 ?_
  refine jj_iastore (N := 512) h (by decide) (fun _ => rfl) (by decide) (by omega) (by omega) d_M_begins_25 ?_
  refine jj_aload_n h d_M_begins_26 rfl ⟨_, rfl⟩ ?_
  refine jj_g_M_field h  fl_M_19 d_M_begins_27 ?_
  refine jj_iload h d_M_begins_30 rfl ?_
  refine jj_iconst h d_M_begins_32 ?_
  refine jj_iadd h d_M_begins_33 ?_
  refine jj_iload_n h d_M_begins_34 rfl ?_
  refine jj_iastore (N := 512) h (by decide) (fun _ => rfl) (by decide) (by omega) (by omega) d_M_begins_35 ?_
  rw [hm1]
  refine jj_iload_n h d_M_begins_36 rfl ?_
  refine jj_istore h d_M_begins_37 (Nat.le_of_ble_eq_true rfl) rfl ?_
  exact loop1 _ p m1 rfl (by omega) (by omega) (by rw [slc_nil (Int.le_refl _)]; exact ap_.rf)
/-- more text to the last value -/
def apl : List (List Int × List Int) → List Int → List (List Int × List Int)
  | [], _ => []
  | [q], v => [(q.1, q.2 ++ v)]
  | q :: r :: t, v => q :: apl (r :: t) v
/-- the fields from p on, behind acc; and where the body begins -/
def fl1 (f : Int → Int) (e : Int) : Nat → Int → List (List Int × List Int) → List (List Int × List Int) × Int
  | 0, p, acc => (acc, p)
  | n + 1, p, acc => if e ≤ p then (acc, e) else if textEnd_ f p e = p then (acc, lineEnd_ f p e)
    else if 0 < nameSize_ f p (textEnd_ f p e) ∧ acc.length < 8 then fl1 f e n (lineEnd_ f p e) (acc ++ [(slc f p (p + nameSize_ f p (textEnd_ f p e)), slc f (p + nameSize_ f p (textEnd_ f p e) + 1) (textEnd_ f p e))])
    else if bl_ (f p) ∧ acc ≠ [] then fl1 f e n (lineEnd_ f p e) (apl acc (slc f p (textEnd_ f p e)))
    else (acc, p)
def flds (f : Int → Int) (b e : Int) : List (List Int × List Int) × Int := ((fl1 f e ((e - b).toNat + 1) b []).1.map (fun q => (q.1, tr_ q.2)), (fl1 f e ((e - b).toNat + 1) b []).2)
