/-! The reference: scanning a value. The text from 'at' up to 'stop' is a list; each method is a function of that list. -/
theorem skp_suf : ∀ (l : List Int) (o : Nat), skp o l <:+ l
  | [], o => by simp [skp]
  | [b], o => by unfold skp; split <;> simp
  | b :: c :: t, o => by
    unfold skp
    split
    · exact List.suffix_refl _
    · split
      · exact (skp_suf (c :: t) (o + 1)).trans (List.suffix_cons b _)
      · split
        · exact (skp_suf (c :: t) (o - 1)).trans (List.suffix_cons b _)
        · split
          · exact ((skp_suf t o).trans (List.suffix_cons c _)).trans (List.suffix_cons b _)
          · exact (skp_suf (c :: t) o).trans (List.suffix_cons b _)
/-- behind a comment; o more are open than the one that must be closed -/
def cmt : Nat → List Int → List Int
  | _, [] => []
  | _, [_] => []
  | o, b :: c :: t => if b = 92 then cmt o t else if b = 40 then cmt (o + 1) (c :: t) else if b = 41 then (match o with | 0 => c :: t | o + 1 => cmt o (c :: t)) else cmt o (c :: t)
theorem skp_c (o : Nat) (b c : Int) (t : List Int) : skp o (b :: c :: t) = if o = 0 ∧ b ≠ 40 ∧ ¬ bl_ b then b :: c :: t else if b = 40 then skp (o + 1) (c :: t) else if b = 41 then skp (o - 1) (c :: t) else if b = 92 then skp o t else skp o (c :: t) := by rw [skp]
theorem cmt_c (o : Nat) (b c : Int) (t : List Int) : cmt o (b :: c :: t) = if b = 92 then cmt o t else if b = 40 then cmt (o + 1) (c :: t) else if b = 41 then (match o with | 0 => c :: t | o + 1 => cmt o (c :: t)) else cmt o (c :: t) := by rw [cmt.eq_def]
theorem skp_cmt : ∀ (l : List Int) (o : Nat), skp (o + 1) l = skp 0 (cmt o l)
  | [], o => by simp [skp, cmt]
  | [b], o => by simp [skp, cmt]
  | b :: c :: t, o => by
    rw [skp_c, cmt_c, if_neg (by omega)]
    by_cases h92 : b = 92
    · rw [if_pos h92, if_neg (by omega), if_neg (by omega), if_pos h92]
      exact skp_cmt t o
    · rw [if_neg h92]
      by_cases h40 : b = 40
      · rw [if_pos h40, if_pos h40, if_neg h92]
        exact skp_cmt (c :: t) (o + 1)
      · rw [if_neg h40, if_neg h40]
        by_cases h41 : b = 41
        · rw [if_pos h41, if_pos h41, if_neg h92]
          cases o with
          | zero => rfl
          | succ o => exact skp_cmt (c :: t) o
        · rw [if_neg h41, if_neg h41, if_neg h92]
          exact skp_cmt (c :: t) o
theorem slc_tail {f : Int → Int} {p e : Int} : (slc f p e).tail = slc f (p + 1) e := by
  by_cases h : p < e
  · rw [slc_cons h]; rfl
  · rw [slc_nil (by omega), slc_nil (by omega)]; rfl
theorem cmt_92 (o : Nat) (l : List Int) : cmt o (92 :: l) = cmt o l.tail := by
  cases l with
  | nil => simp [cmt]
  | cons c t => rw [cmt_c, if_pos rfl]; rfl
theorem cmt_40 (o : Nat) (l : List Int) : cmt o (40 :: l) = cmt (o + 1) l := by
  cases l with
  | nil => simp [cmt]
  | cons c t => rw [cmt_c, if_neg (by decide), if_pos rfl]
theorem cmt_41 (o : Nat) (l : List Int) : cmt (o + 1) (41 :: l) = cmt o l := by
  cases l with
  | nil => simp [cmt]
  | cons c t => rw [cmt_c, if_neg (by decide), if_neg (by decide), if_pos rfl]
theorem cmt_0 (l : List Int) : cmt 0 (41 :: l) = l := by
  cases l with
  | nil => simp [cmt]
  | cons c t => rw [cmt_c, if_neg (by decide), if_neg (by decide), if_pos rfl]
theorem cmt_e {o : Nat} {b : Int} {l : List Int} (h1 : b ≠ 92) (h2 : b ≠ 40) (h3 : b ≠ 41) : cmt o (b :: l) = cmt o l := by
  cases l with
  | nil => simp [cmt]
  | cons c t => rw [cmt_c, if_neg h1, if_neg h2, if_neg h3]
theorem skp_stop {b : Int} {l : List Int} (h1 : b ≠ 40) (h2 : ¬ bl_ b) : skp 0 (b :: l) = b :: l := by
  cases l with
  | nil => unfold skp; rw [if_pos ⟨rfl, h1, h2⟩]
  | cons c t => rw [skp_c, if_pos ⟨rfl, h1, h2⟩]
theorem skp_40 (o : Nat) (l : List Int) : skp o (40 :: l) = skp (o + 1) l := by
  cases l with
  | nil => simp [skp]
  | cons c t => rw [skp_c, if_neg (by omega), if_pos rfl]
theorem skp_41 (o : Nat) (l : List Int) : skp (o + 1) (41 :: l) = skp o l := by
  cases l with
  | nil => simp [skp]
  | cons c t => rw [skp_c, if_neg (by omega), if_neg (by decide), if_pos rfl]; rfl
theorem skp_92 (o : Nat) (l : List Int) : skp (o + 1) (92 :: l) = skp (o + 1) l.tail := by
  cases l with
  | nil => simp [skp]
  | cons c t => rw [skp_c, if_neg (by omega), if_neg (by decide), if_neg (by decide), if_pos rfl]; rfl
theorem skp_e {o : Nat} {b : Int} {l : List Int} (h0 : o ≠ 0 ∨ bl_ b) (h1 : b ≠ 92) (h2 : b ≠ 40) (h3 : b ≠ 41) : skp o (b :: l) = skp o l := by
  cases l with
  | nil => unfold skp; rw [if_neg (by rintro ⟨a, _, d⟩; rcases h0 with h0 | h0; exact h0 a; exact d h0)]
  | cons c t => rw [skp_c, if_neg (by rintro ⟨a, _, d⟩; rcases h0 with h0 | h0; exact h0 a; exact d h0), if_neg h2, if_neg h3, if_neg h1]
theorem cmt_suf : ∀ (l : List Int) (o : Nat), cmt o l <:+ l
  | [], o => by simp [cmt]
  | [b], o => by simp [cmt]
  | b :: c :: t, o => by
    unfold cmt
    split
    · exact ((cmt_suf t o).trans (List.suffix_cons c _)).trans (List.suffix_cons b _)
    · split
      · exact (cmt_suf (c :: t) (o + 1)).trans (List.suffix_cons b _)
      · split
        · cases o with
          | zero => exact List.suffix_cons b _
          | succ o => exact (cmt_suf (c :: t) o).trans (List.suffix_cons b _)
        · exact (cmt_suf (c :: t) o).trans (List.suffix_cons b _)
/-- the reference's scanner stands in the row t at a, before s -/
def sc_ (mem : mt_M) (a s : Int) : Prop := mem 182 13 = a ∧ mem 182 14 = s ∧ 0 ≤ a ∧ a ≤ s ∧ s ≤ 1400 ∧ by_ (mem 187) a s
theorem sc_.to {mem : mt_M} {a s b : Int} (h : sc_ mem a s) (h1 : a ≤ b) (h2 : b ≤ s) : sc_ (st_ mem 182 13 b) b s := by
  obtain ⟨q1, q2, q3, q4, q5, q6⟩ := h
  refine ⟨st_same, ?_, by omega, h2, q5, ?_⟩
  · rw [st_ne (by decide)]; exact q2
  · rw [st_row (by decide)]; exact q6.sub h1 (by omega)
theorem cM_now2 {G : mt_G} {l : Launch} {mem : mt_M} {a s : Int} (hs : sc_ mem a s) : CT G l y_M_now c_M_now 1 (some .int) 1 [vr G 182] mem (fun v m' => v = some (vi (if a < s then mem 187 a else -1)) ∧ mem = m') := by
  obtain ⟨q1, q2, q3, q4, q5, q6⟩ := hs
  have := cM_now (G := G) (l := l) (mem := mem) (by omega) (by omega) (by omega) (by omega)
  rw [q1, q2] at this
  exact this
theorem cM_comment {G : mt_G} {l : Launch} {mem : mt_M} {a s : Int} (hs : sc_ mem a s) (ha : a < s) (h40 : mem 187 a = 40) : CT G l y_M_comment c_M_comment 3 none 1 [vr G 182] mem (fun v m' => v = none ∧ st_ mem 182 13 (s - (cmt 0 (slc (mem 187) (a + 1) s)).length) = m') := by
  refine CT.intro (by decide) rfl (Nat.le_of_ble_eq_true rfl) (fun X h he => ?_)
  have hst := hs.2.1
  have hby := hs.2.2.2.2.2
  have h0 := hs.2.2.1
  have h14 := hs.2.2.2.2.1
  have loop : ∀ (n : Nat) (q : Int) (o : Nat) (x : Option Value), (s - q).toNat = n → a ≤ q → q ≤ s + 1 → (o : Int) ≤ q - a → cmt 0 (slc (mem 187) (a + 1) s) = cmt o (slc (mem 187) q s) → JJ G X 0 0 (st_ mem 182 13 q) 2 [some (vr G 182), some (vi (o + 1)), x] [] := by
    intro n
    induction n using Nat.strongRecOn with
    | ind n ih =>
      intro q o x hn hq hq1 ho hc
      by_cases hqs : s ≤ q
      · rw [slc_nil hqs] at hc
        refine jj_aload_n h d_M_comment_2 rfl ⟨_, rfl⟩ ?_
        refine jj_g_M_at h  fl_M_93 d_M_comment_3 ?_
        simp only [st_at, and_self, true_and, and_true, false_and, and_false, reduceIte, hst]
        refine jj_aload_n h d_M_comment_6 rfl ⟨_, rfl⟩ ?_
        refine jj_g_M_stop h  fl_M_96 d_M_comment_7 ?_
        simp only [st_at, and_self, true_and, and_true, false_and, and_false, reduceIte, hst]
        refine jj_icmp_ge h 81 d_M_comment_10 (by decide) ⟨by omega, by omega⟩ ⟨by omega, by omega⟩ (fun _ => ?_) (fun q10 => absurd (by omega) q10)
        refine jj_aload_n h d_M_comment_81 rfl ⟨_, rfl⟩ ?_
        refine jj_aload_n h d_M_comment_82 rfl ⟨_, rfl⟩ ?_
        refine jj_g_M_stop h  fl_M_96 d_M_comment_83 ?_
        simp only [st_at, and_self, true_and, and_true, false_and, and_false, reduceIte, hst]
        refine jj_p_M_at h  fl_M_93 d_M_comment_86 ?_
        refine jj_vret h he d_M_comment_89 ?_
        exact ⟨rfl, by rw [st_st, hc]; simp [cmt]⟩
      · have hq3 := hby q (by omega) (by omega)
        rw [slc_cons (by omega : q < s)] at hc
        refine jj_aload_n h d_M_comment_2 rfl ⟨_, rfl⟩ ?_
        refine jj_g_M_at h  fl_M_93 d_M_comment_3 ?_
        try simp only [st_at, Nat.reduceEqDiff, Int.reduceEq, and_self, true_and, and_true, false_and, and_false, reduceIte, hst]
        refine jj_aload_n h d_M_comment_6 rfl ⟨_, rfl⟩ ?_
        refine jj_g_M_stop h  fl_M_96 d_M_comment_7 ?_
        try simp only [st_at, Nat.reduceEqDiff, Int.reduceEq, and_self, true_and, and_true, false_and, and_false, reduceIte, hst]
        refine jj_icmp_ge h 81 d_M_comment_10 (by decide) ⟨by omega, by omega⟩ ⟨by omega, by omega⟩ (fun q10 => absurd q10 (by omega)) (fun _ => ?_)
        refine jj_aload_n h d_M_comment_13 rfl ⟨_, rfl⟩ ?_
        refine jj_g_M_text h  fl_M_22 d_M_comment_14 ?_
        try simp only [st_at, Nat.reduceEqDiff, Int.reduceEq, and_self, true_and, and_true, false_and, and_false, reduceIte, hst]
        refine jj_aload_n h d_M_comment_17 rfl ⟨_, rfl⟩ ?_
        refine jj_g_M_at h  fl_M_93 d_M_comment_18 ?_
        try simp only [st_at, Nat.reduceEqDiff, Int.reduceEq, and_self, true_and, and_true, false_and, and_false, reduceIte, hst]
        refine jj_iaload (N := 1400) h (by decide) rfl (by decide) (by omega) (by omega) d_M_comment_21 ?_
        try simp only [st_at, Nat.reduceEqDiff, Int.reduceEq, and_self, true_and, and_true, false_and, and_false, reduceIte, hst]
        refine jj_istore_n h d_M_comment_22 (Nat.le_of_ble_eq_true rfl) rfl ?_
        refine jj_aload_n h d_M_comment_23 rfl ⟨_, rfl⟩ ?_
        refine jj_dup h d_M_comment_24 rfl ?_
        refine jj_g_M_at h  fl_M_93 d_M_comment_25 ?_
        try simp only [st_at, Nat.reduceEqDiff, Int.reduceEq, and_self, true_and, and_true, false_and, and_false, reduceIte, hst]
        refine jj_iconst h d_M_comment_28 ?_
        refine jj_iadd h d_M_comment_29 ?_
        refine jj_p_M_at h  fl_M_93 d_M_comment_30 ?_
        refine jj_iload_n h d_M_comment_33 rfl ?_
        refine jj_bipush h d_M_comment_34 (by decide) ?_
        refine jj_icmp_ne h 52 d_M_comment_36 (by decide) ⟨by omega, by omega⟩ ⟨by omega, by omega⟩ (fun q36 => ?_) (fun q36 => ?_)
        · refine jj_iload_n h d_M_comment_52 rfl ?_
          refine jj_bipush h d_M_comment_53 (by decide) ?_
          refine jj_icmp_ne h 64 d_M_comment_55 (by decide) ⟨by omega, by omega⟩ ⟨by omega, by omega⟩ (fun q55 => ?_) (fun q55 => ?_)
          · refine jj_iload_n h d_M_comment_64 rfl ?_
            refine jj_bipush h d_M_comment_65 (by decide) ?_
            refine jj_icmp_ne h 73 d_M_comment_67 (by decide) ⟨by omega, by omega⟩ ⟨by omega, by omega⟩ (fun q67 => ?_) (fun q67 => ?_)
            · refine jj_iload_n h d_M_comment_73 rfl ?_
              refine jj_if_ne h 78 d_M_comment_74 (by decide) ⟨by omega, by omega⟩ (fun q74 => ?_) (fun q74 => ?_)
              · refine jj_goto h 2 d_M_comment_78 (by decide) ?_
                simp only [st_st]
                exact ih _ (by omega) (q + 1) o _ rfl (by omega) (by omega) (by omega) (by rw [hc, cmt_e q36 q55 q67])
              · refine jj_vret h he d_M_comment_77 ?_
                exfalso; omega
            · refine jj_iinc h d_M_comment_70 rfl rfl ?_
              refine jj_iload_n h d_M_comment_73 rfl ?_
              refine jj_if_ne h 78 d_M_comment_74 (by decide) ⟨by omega, by omega⟩ (fun q74 => ?_) (fun q74 => ?_)
              · refine jj_goto h 2 d_M_comment_78 (by decide) ?_
                simp only [st_st]
                obtain ⟨o', rfl⟩ : ∃ o', o = o' + 1 := ⟨o - 1, by omega⟩
                rw [show ((o' + 1 : Nat) : Int) + 1 + -1 = (o' : Int) + 1 by omega]
                exact ih _ (by omega) (q + 1) o' _ rfl (by omega) (by omega) (by omega) (by rw [hc, q67, cmt_41])
              · refine jj_vret h he d_M_comment_77 ?_
                have e9 : o = 0 := by omega
                subst e9
                refine ⟨rfl, ?_⟩
                rw [hc, q67, cmt_0, slc_len, st_st]
                congr 1; omega
          · refine jj_iinc h d_M_comment_58 rfl rfl ?_
            refine jj_goto h 73 d_M_comment_61 (by decide) ?_
            refine jj_iload_n h d_M_comment_73 rfl ?_
            refine jj_if_ne h 78 d_M_comment_74 (by decide) ⟨by omega, by omega⟩ (fun q74 => ?_) (fun q74 => ?_)
            · refine jj_goto h 2 d_M_comment_78 (by decide) ?_
              simp only [st_st]
              exact ih _ (by omega) (q + 1) (o + 1) _ rfl (by omega) (by omega) (by omega) (by rw [hc, q55, cmt_40])
            · refine jj_vret h he d_M_comment_77 ?_
              exfalso; omega
        · refine jj_aload_n h d_M_comment_39 rfl ⟨_, rfl⟩ ?_
          refine jj_dup h d_M_comment_40 rfl ?_
          refine jj_g_M_at h  fl_M_93 d_M_comment_41 ?_
          try simp only [st_at, Nat.reduceEqDiff, Int.reduceEq, and_self, true_and, and_true, false_and, and_false, reduceIte, hst]
          refine jj_iconst h d_M_comment_44 ?_
          refine jj_iadd h d_M_comment_45 ?_
          refine jj_p_M_at h  fl_M_93 d_M_comment_46 ?_
          refine jj_goto h 73 d_M_comment_49 (by decide) ?_
          refine jj_iload_n h d_M_comment_73 rfl ?_
          refine jj_if_ne h 78 d_M_comment_74 (by decide) ⟨by omega, by omega⟩ (fun q74 => ?_) (fun q74 => ?_)
          · refine jj_goto h 2 d_M_comment_78 (by decide) ?_
            simp only [st_st]
            exact ih _ (by omega) (q + 1 + 1) o _ rfl (by omega) (by omega) (by omega) (by rw [hc, q36, cmt_92, slc_tail])
          · refine jj_vret h he d_M_comment_77 ?_
            exfalso; omega
  have hs1 := hs.1
  have e0 : mem = st_ mem 182 13 a := by rw [← hs1, st_id]
  refine jj_iconst h d_M_comment_0 ?_
  refine jj_istore_n h d_M_comment_1 (Nat.le_of_ble_eq_true rfl) rfl ?_
  rw [e0]
  refine jj_aload_n h d_M_comment_2 rfl ⟨_, rfl⟩ ?_
  refine jj_g_M_at h  fl_M_93 d_M_comment_3 ?_
  try simp only [st_at, Nat.reduceEqDiff, Int.reduceEq, and_self, true_and, and_true, false_and, and_false, reduceIte, hst]
  refine jj_aload_n h d_M_comment_6 rfl ⟨_, rfl⟩ ?_
  refine jj_g_M_stop h  fl_M_96 d_M_comment_7 ?_
  try simp only [st_at, Nat.reduceEqDiff, Int.reduceEq, and_self, true_and, and_true, false_and, and_false, reduceIte, hst]
  refine jj_icmp_ge h 81 d_M_comment_10 (by decide) ⟨by omega, by omega⟩ ⟨by omega, by omega⟩ (fun q10 => absurd q10 (by omega)) (fun _ => ?_)
  refine jj_aload_n h d_M_comment_13 rfl ⟨_, rfl⟩ ?_
  refine jj_g_M_text h  fl_M_22 d_M_comment_14 ?_
  try simp only [st_at, Nat.reduceEqDiff, Int.reduceEq, and_self, true_and, and_true, false_and, and_false, reduceIte, hst]
  refine jj_aload_n h d_M_comment_17 rfl ⟨_, rfl⟩ ?_
  refine jj_g_M_at h  fl_M_93 d_M_comment_18 ?_
  try simp only [st_at, Nat.reduceEqDiff, Int.reduceEq, and_self, true_and, and_true, false_and, and_false, reduceIte, hst]
  refine jj_iaload (N := 1400) h (by decide) rfl (by decide) (by omega) (by omega) d_M_comment_21 ?_
  try simp only [st_at, Nat.reduceEqDiff, Int.reduceEq, and_self, true_and, and_true, false_and, and_false, reduceIte, hst]
  refine jj_istore_n h d_M_comment_22 (Nat.le_of_ble_eq_true rfl) rfl ?_
  refine jj_aload_n h d_M_comment_23 rfl ⟨_, rfl⟩ ?_
  refine jj_dup h d_M_comment_24 rfl ?_
  refine jj_g_M_at h  fl_M_93 d_M_comment_25 ?_
  try simp only [st_at, Nat.reduceEqDiff, Int.reduceEq, and_self, true_and, and_true, false_and, and_false, reduceIte, hst]
  refine jj_iconst h d_M_comment_28 ?_
  refine jj_iadd h d_M_comment_29 ?_
  refine jj_p_M_at h  fl_M_93 d_M_comment_30 ?_
  refine jj_iload_n h d_M_comment_33 rfl ?_
  refine jj_bipush h d_M_comment_34 (by decide) ?_
  refine jj_icmp_ne h 52 d_M_comment_36 (by decide) ⟨by omega, by omega⟩ ⟨by omega, by omega⟩ (fun _ => ?_) (fun q36 => absurd q36 (by omega))
  refine jj_iload_n h d_M_comment_52 rfl ?_
  refine jj_bipush h d_M_comment_53 (by decide) ?_
  refine jj_icmp_ne h 64 d_M_comment_55 (by decide) ⟨by omega, by omega⟩ ⟨by omega, by omega⟩ (fun q55 => absurd (by omega) q55) (fun _ => ?_)
  refine jj_iinc h d_M_comment_58 rfl rfl ?_
  refine jj_goto h 73 d_M_comment_61 (by decide) ?_
  refine jj_iload_n h d_M_comment_73 rfl ?_
  refine jj_if_ne h 78 d_M_comment_74 (by decide) ⟨by omega, by omega⟩ (fun _ => ?_) (fun q74 => absurd q74 (by omega))
  refine jj_goto h 2 d_M_comment_78 (by decide) ?_
  simp only [st_st]
  exact loop _ (a + 1) 0 _ rfl (by omega) (by omega) (by omega) rfl
/-- a known place -/
theorem cM_space {G : mt_G} {l : Launch} {mem : mt_M} {a s : Int} (hs : sc_ mem a s) : CT G l y_M_space c_M_space 2 none 3 [vr G 182] mem (fun v m' => v = none ∧ st_ mem 182 13 (s - (skp 0 (slc (mem 187) a s)).length) = m') := by
  refine CT.intro (by decide) rfl (Nat.le_of_ble_eq_true rfl) (fun X h he => ?_)
  have hst := hs.2.1
  have hby := hs.2.2.2.2.2
  have h0 := hs.2.2.1
  have h14 := hs.2.2.2.2.1
  have h4 := hs.2.2.2.1
  have loop : ∀ (n : Nat) (q : Int), (s - q).toNat = n → a ≤ q → q ≤ s → skp 0 (slc (mem 187) a s) = skp 0 (slc (mem 187) q s) → JJ G X 0 0 (st_ mem 182 13 q) 2 [some (vr G 182), some (vi 1)] [] := by
    intro n
    induction n using Nat.strongRecOn with
    | ind n ih =>
      intro q hn hq hq1 hc
      have hsq := hs.to hq hq1
      by_cases hqs : q < s
      · have hq3 := hby q (by omega) (by omega)
        rw [slc_cons hqs] at hc
        refine jj_iload_n h d_M_space_2 rfl ?_
        refine jj_if_eq h 50 d_M_space_3 (by decide) ⟨by omega, by omega⟩ (fun q3 => absurd q3 (by omega)) (fun _ => ?_)
        refine jj_aload_n h d_M_space_6 rfl ⟨_, rfl⟩ ?_
        refine jj_callV h (cM_now2 hsq) cv_M_99 (ro_of he (by decide) (by decide)) rfl rfl (by decide) rfl rfl rfl (Nat.le_of_ble_eq_true rfl) d_M_space_7 (fun v m1 hv => ?_)
        obtain ⟨rfl, rfl⟩ := hv
        rw [if_pos hqs, st_row (by decide)]
        refine jj_callS h (cM_isBlank ⟨by omega, by omega⟩) cv_M_62 (ro_of he (by decide) (by decide)) rfl rfl rfl (Nat.le_of_ble_eq_true rfl) d_M_space_10 (fun v m1 hv => ?_)
        obtain ⟨rfl, rfl⟩ := hv
        refine jj_if_eq h 29 d_M_space_13 (by decide) ⟨by split <;> omega, by split <;> omega⟩ (fun q13 => ?_) (fun q13 => ?_)
        · have q13 : ¬ bl_ (mem 187 q) := fun z => by rw [if_pos z] at q13; omega
          refine jj_aload_n h d_M_space_29 rfl ⟨_, rfl⟩ ?_
          refine jj_callV h (cM_now2 hsq) cv_M_99 (ro_of he (by decide) (by decide)) rfl rfl (by decide) rfl rfl rfl (Nat.le_of_ble_eq_true rfl) d_M_space_30 (fun v m1 hv => ?_)
          obtain ⟨rfl, rfl⟩ := hv
          rw [if_pos hqs, st_row (by decide)]
          refine jj_bipush h d_M_space_33 (by decide) ?_
          refine jj_icmp_ne h 45 d_M_space_35 (by decide) ⟨by omega, by omega⟩ ⟨by omega, by omega⟩ (fun q35 => ?_) (fun q35 => ?_)
          · refine jj_iconst h d_M_space_45 ?_
            refine jj_istore_n h d_M_space_46 (Nat.le_of_ble_eq_true rfl) rfl ?_
            refine jj_goto h 2 d_M_space_47 (by decide) ?_
            refine jj_iload_n h d_M_space_2 rfl ?_
            refine jj_if_eq h 50 d_M_space_3 (by decide) ⟨by omega, by omega⟩ (fun _ => ?_) (fun q3 => absurd rfl q3)
            refine jj_vret h he d_M_space_50 ?_
            exact ⟨rfl, by rw [hc, skp_stop q35 q13, ← slc_cons hqs, slc_len]; congr 1; omega⟩
          · refine jj_aload_n h d_M_space_38 rfl ⟨_, rfl⟩ ?_
            refine jj_callV h (cM_comment hsq hqs (by rw [st_row (by decide)]; exact q35)) cv_M_103 (ro_of he (by decide) (by decide)) rfl rfl (by decide) rfl rfl rfl (Nat.le_of_ble_eq_true rfl) d_M_space_39 (fun v m1 hv => ?_)
            obtain ⟨rfl, rfl⟩ := hv
            rw [st_row (by decide)]
            refine jj_goto h 2 d_M_space_42 (by decide) ?_
            simp only [st_st]
            have hz := slc_suf (f := mem 187) (a := q + 1) (s := s) (by omega) (cmt_suf (slc (mem 187) (q + 1) s) 0)
            exact ih _ (by omega) _ rfl (by omega) (by omega) (by rw [hc, q35, skp_40, skp_cmt, hz.1])
        · have q13 : bl_ (mem 187 q) := Decidable.byContradiction fun z => q13 (by rw [if_neg z])
          refine jj_aload_n h d_M_space_16 rfl ⟨_, rfl⟩ ?_
          refine jj_dup h d_M_space_17 rfl ?_
          refine jj_g_M_at h  fl_M_93 d_M_space_18 ?_
          try simp only [st_at, Nat.reduceEqDiff, Int.reduceEq, and_self, true_and, and_true, false_and, and_false, reduceIte, hst]
          refine jj_iconst h d_M_space_21 ?_
          refine jj_iadd h d_M_space_22 ?_
          refine jj_p_M_at h  fl_M_93 d_M_space_23 ?_
          refine jj_goto h 2 d_M_space_26 (by decide) ?_
          simp only [st_st]
          exact ih _ (by omega) (q + 1) rfl (by omega) (by omega) (by rw [hc, skp_e (Or.inr q13) (by omega) (by omega) (by omega)])
      · rw [slc_nil (p := q) (by omega)] at hc
        refine jj_iload_n h d_M_space_2 rfl ?_
        refine jj_if_eq h 50 d_M_space_3 (by decide) ⟨by omega, by omega⟩ (fun q3 => absurd q3 (by omega)) (fun _ => ?_)
        refine jj_aload_n h d_M_space_6 rfl ⟨_, rfl⟩ ?_
        refine jj_callV h (cM_now2 hsq) cv_M_99 (ro_of he (by decide) (by decide)) rfl rfl (by decide) rfl rfl rfl (Nat.le_of_ble_eq_true rfl) d_M_space_7 (fun v m1 hv => ?_)
        obtain ⟨rfl, rfl⟩ := hv
        rw [if_neg hqs]
        refine jj_callS h (cM_isBlank ⟨by omega, by omega⟩) cv_M_62 (ro_of he (by decide) (by decide)) rfl rfl rfl (Nat.le_of_ble_eq_true rfl) d_M_space_10 (fun v m1 hv => ?_)
        obtain ⟨rfl, rfl⟩ := hv
        refine jj_if_eq h 29 d_M_space_13 (by decide) ⟨by decide, by decide⟩ (fun _ => ?_) (fun q13 => absurd (rfl) q13)
        refine jj_aload_n h d_M_space_29 rfl ⟨_, rfl⟩ ?_
        refine jj_callV h (cM_now2 hsq) cv_M_99 (ro_of he (by decide) (by decide)) rfl rfl (by decide) rfl rfl rfl (Nat.le_of_ble_eq_true rfl) d_M_space_30 (fun v m1 hv => ?_)
        obtain ⟨rfl, rfl⟩ := hv
        rw [if_neg hqs]
        refine jj_bipush h d_M_space_33 (by decide) ?_
        refine jj_icmp_ne h 45 d_M_space_35 (by decide) ⟨by omega, by omega⟩ ⟨by omega, by omega⟩ (fun _ => ?_) (fun q35 => absurd q35 (by omega))
        refine jj_iconst h d_M_space_45 ?_
        refine jj_istore_n h d_M_space_46 (Nat.le_of_ble_eq_true rfl) rfl ?_
        refine jj_goto h 2 d_M_space_47 (by decide) ?_
        refine jj_iload_n h d_M_space_2 rfl ?_
        refine jj_if_eq h 50 d_M_space_3 (by decide) ⟨by omega, by omega⟩ (fun _ => ?_) (fun q3 => absurd rfl q3)
        refine jj_vret h he d_M_space_50 ?_
        exact ⟨rfl, by rw [hc]; simp only [skp, List.length_nil]; congr 1; omega⟩
  have e0 : mem = st_ mem 182 13 a := by rw [← hs.1, st_id]
  refine jj_iconst h d_M_space_0 ?_
  refine jj_istore_n h d_M_space_1 (Nat.le_of_ble_eq_true rfl) rfl ?_
  rw [e0]
  exact loop _ a rfl (by omega) (by omega) rfl
theorem twl {p : Int → Bool} {f : Int → Int} {q s : Int} (h : q < s) (hp : p (f q) = true) : (slc f q s).takeWhile p = f q :: (slc f (q + 1) s).takeWhile p ∧ (slc f q s).dropWhile p = (slc f (q + 1) s).dropWhile p := by
  rw [slc_cons h]; simp [hp]
theorem twn {p : Int → Bool} {f : Int → Int} {q s : Int} (h : q < s) (hp : ¬ p (f q) = true) : (slc f q s).takeWhile p = [] ∧ (slc f q s).dropWhile p = slc f q s := by
  rw [slc_cons h]; simp [hp]
/-- atom(): the word's place and size, and where it goes on -/
def am_ (mem : mt_M) (a s : Int) : mt_M := st_ (st_ (st_ mem 182 15 a) 182 13 (s - ((slc (mem 187) a s).dropWhile at_).length)) 182 16 (s - ((slc (mem 187) a s).dropWhile at_).length - a)
theorem cM_atom {G : mt_G} {l : Launch} {mem : mt_M} {a s : Int} (hs : sc_ mem a s) : CT G l y_M_atom c_M_atom 1 (some .boolean) 3 [vr G 182] mem (fun v m' => v = some (vi (if (slc (mem 187) a s).takeWhile at_ = [] then 0 else 1)) ∧ am_ mem a s = m') := by
  refine CT.intro (by decide) rfl (Nat.le_of_ble_eq_true rfl) (fun X h he => ?_)
  have hst := hs.2.1
  have hby := hs.2.2.2.2.2
  have h0 := hs.2.2.1
  have h14 := hs.2.2.2.2.1
  have h4 := hs.2.2.2.1
  have hat := hs.1
  have fin : ∀ q : Int, a ≤ q → q ≤ s → ((slc (mem 187) a s).dropWhile at_) = slc (mem 187) q s → ((slc (mem 187) a s).takeWhile at_ = [] ↔ q = a) → JJ G X 0 0 (st_ (st_ mem 182 15 a) 182 13 q) 31 [some (vr G 182)] [] := by
    intro q hq hq1 hd ht
    have hl : (s - ((slc (mem 187) a s).dropWhile at_).length : Int) = q := by rw [hd, slc_len]; omega
    refine jj_aload_n h d_M_atom_31 rfl ⟨_, rfl⟩ ?_
    refine jj_aload_n h d_M_atom_32 rfl ⟨_, rfl⟩ ?_
    refine jj_g_M_at h  fl_M_93 d_M_atom_33 ?_
    try simp only [st_at, Nat.reduceEqDiff, Int.reduceEq, and_self, true_and, and_true, false_and, and_false, reduceIte, hst]
    refine jj_aload_n h d_M_atom_36 rfl ⟨_, rfl⟩ ?_
    refine jj_g_M_wordAt h  fl_M_106 d_M_atom_37 ?_
    try simp only [st_at, Nat.reduceEqDiff, Int.reduceEq, and_self, true_and, and_true, false_and, and_false, reduceIte, hst]
    refine jj_isub h d_M_atom_40 ?_
    refine jj_p_M_wordSize h  fl_M_112 d_M_atom_41 ?_
    refine jj_aload_n h d_M_atom_44 rfl ⟨_, rfl⟩ ?_
    refine jj_g_M_wordSize h  fl_M_112 d_M_atom_45 ?_
    try simp only [st_at, Nat.reduceEqDiff, Int.reduceEq, and_self, true_and, and_true, false_and, and_false, reduceIte, hst]
    refine jj_if_le h 55 d_M_atom_48 (by decide) ⟨by omega, by omega⟩ (fun q48 => ?_) (fun q48 => ?_)
    · refine jj_iconst h d_M_atom_55 ?_
      refine jj_zret h he (by omega) d_M_atom_56 ?_
      exact ⟨by rw [if_pos (ht.mpr (by omega))], by unfold am_; rw [hl]⟩
    · refine jj_iconst h d_M_atom_51 ?_
      refine jj_goto h 56 d_M_atom_52 (by decide) ?_
      refine jj_zret h he (by omega) d_M_atom_56 ?_
      exact ⟨by rw [if_neg (fun z => q48 (by have := ht.mp z; omega))], by unfold am_; rw [hl]⟩
  have loop : ∀ (n : Nat) (q : Int), (s - q).toNat = n → a ≤ q → q ≤ s → (slc (mem 187) a s).dropWhile at_ = (slc (mem 187) q s).dropWhile at_ → (a < q → ¬ (slc (mem 187) a s).takeWhile at_ = []) → JJ G X 0 0 (st_ (st_ mem 182 15 a) 182 13 q) 8 [some (vr G 182)] [] := by
    intro n
    induction n with
    | zero =>
      intro q hn hq hq1 hd ht
      have hsq : sc_ (st_ (st_ mem 182 15 a) 182 13 q) q s := ⟨st_same, by rw [st_ne (by decide), st_ne (by decide)]; exact hst, by omega, hq1, h14, by rw [st_row (by decide), st_row (by decide)]; exact hby.sub hq (by omega)⟩
      refine jj_aload_n h d_M_atom_8 rfl ⟨_, rfl⟩ ?_
      refine jj_callV h (cM_now2 hsq) cv_M_99 (ro_of he (by decide) (by decide)) rfl rfl (by decide) rfl rfl rfl (Nat.le_of_ble_eq_true rfl) d_M_atom_9 (fun v m1 hv => ?_)
      obtain ⟨rfl, rfl⟩ := hv
      rw [if_neg (by omega)]
      refine jj_callS h (cM_isAtom ⟨by omega, by omega⟩) cv_M_109 (ro_of he (by decide) (by decide)) rfl rfl rfl (Nat.le_of_ble_eq_true rfl) d_M_atom_12 (fun v m1 hv => ?_)
      obtain ⟨rfl, rfl⟩ := hv
      refine jj_if_eq h 31 d_M_atom_15 (by decide) ⟨by decide, by decide⟩ (fun _ => ?_) (fun q15 => absurd (rfl) q15)
      refine fin q hq hq1 (by rw [hd, slc_nil (by omega)]; rfl) ⟨fun z => ?_, fun z => ?_⟩
      · exact Decidable.byContradiction fun y => ht (by omega) z
      · rw [← z, slc_nil (by omega)]; rfl
    | succ n ih =>
      intro q hn hq hq1 hd ht
      have hsq : sc_ (st_ (st_ mem 182 15 a) 182 13 q) q s := ⟨st_same, by rw [st_ne (by decide), st_ne (by decide)]; exact hst, by omega, hq1, h14, by rw [st_row (by decide), st_row (by decide)]; exact hby.sub hq (by omega)⟩
      have hq3 := hby q (by omega) (by omega)
      refine jj_aload_n h d_M_atom_8 rfl ⟨_, rfl⟩ ?_
      refine jj_callV h (cM_now2 hsq) cv_M_99 (ro_of he (by decide) (by decide)) rfl rfl (by decide) rfl rfl rfl (Nat.le_of_ble_eq_true rfl) d_M_atom_9 (fun v m1 hv => ?_)
      obtain ⟨rfl, rfl⟩ := hv
      rw [if_pos (by omega), st_row (by decide), st_row (by decide)]
      refine jj_callS h (cM_isAtom ⟨by omega, by omega⟩) cv_M_109 (ro_of he (by decide) (by decide)) rfl rfl rfl (Nat.le_of_ble_eq_true rfl) d_M_atom_12 (fun v m1 hv => ?_)
      obtain ⟨rfl, rfl⟩ := hv
      refine jj_if_eq h 31 d_M_atom_15 (by decide) ⟨by split <;> omega, by split <;> omega⟩ (fun q15 => ?_) (fun q15 => ?_)
      · have q15 : ¬ at_ (mem 187 q) = true := fun z => by rw [if_pos z] at q15; omega
        refine fin q hq hq1 (by rw [hd, (twn (by omega) q15).2]) ⟨fun z => ?_, fun z => ?_⟩
        · exact Decidable.byContradiction fun y => ht (by omega) z
        · subst z; exact (twn (by omega) q15).1
      · have q15 : at_ (mem 187 q) = true := Decidable.byContradiction fun z => q15 (by rw [if_neg z])
        refine jj_aload_n h d_M_atom_18 rfl ⟨_, rfl⟩ ?_
        refine jj_dup h d_M_atom_19 rfl ?_
        refine jj_g_M_at h  fl_M_93 d_M_atom_20 ?_
        try simp only [st_at, Nat.reduceEqDiff, Int.reduceEq, and_self, true_and, and_true, false_and, and_false, reduceIte, hst]
        refine jj_iconst h d_M_atom_23 ?_
        refine jj_iadd h d_M_atom_24 ?_
        refine jj_p_M_at h  fl_M_93 d_M_atom_25 ?_
        refine jj_goto h 8 d_M_atom_28 (by decide) ?_
        simp only [st_st]
        refine ih (q + 1) (by omega) (by omega) (by omega) (by rw [hd, (twl (by omega) q15).2]) (fun _ => ?_)
        by_cases hqa : a = q
        · subst hqa; rw [(twl (by omega) q15).1]; simp
        · exact ht (by omega)
  have e0 : st_ mem 182 15 a = st_ (st_ mem 182 15 a) 182 13 a := by
    rw [st_comm (by decide), show st_ mem 182 13 a = mem by rw [← hat, st_id]]
  refine jj_aload_n h d_M_atom_0 rfl ⟨_, rfl⟩ ?_
  refine jj_aload_n h d_M_atom_1 rfl ⟨_, rfl⟩ ?_
  refine jj_g_M_at h  fl_M_93 d_M_atom_2 ?_
  try simp only [st_at, Nat.reduceEqDiff, Int.reduceEq, and_self, true_and, and_true, false_and, and_false, reduceIte, hat]
  refine jj_p_M_wordAt h  fl_M_106 d_M_atom_5 ?_
  rw [e0]
  exact loop _ a rfl (by omega) h4 rfl (fun z => absurd z (by omega))
theorem cM_takes {G : mt_G} {l : Launch} {mem : mt_M} {a s c : Int} (hs : sc_ mem a s) (hc : 0 ≤ c ∧ c ≤ 255) : CT G l y_M_takes c_M_takes 2 (some .boolean) 3 [vr G 182, vi c] mem (fun v m' => match tk_ c (slc (mem 187) a s) with
    | none => v = some (vi 0) ∧ mem = m'
    | some _ => v = some (vi 1) ∧ st_ mem 182 13 (a + 1) = m') := by
  refine CT.intro (by decide) rfl (Nat.le_of_ble_eq_true rfl) (fun X h he => ?_)
  have hst := hs.2.1
  have hby := hs.2.2.2.2.2
  have hat := hs.1
  by_cases hqs : a < s
  · have hq3 := hby a (by omega) (by omega)
    rw [slc_cons hqs] at he
    refine jj_aload_n h d_M_takes_0 rfl ⟨_, rfl⟩ ?_
    refine jj_callV h (cM_now2 hs) cv_M_99 (ro_of he (by decide) (by decide)) rfl rfl (by decide) rfl rfl rfl (Nat.le_of_ble_eq_true rfl) d_M_takes_1 (fun v m1 hv => ?_)
    obtain ⟨rfl, rfl⟩ := hv
    rw [if_pos hqs]
    refine jj_iload_n h d_M_takes_4 rfl ?_
    refine jj_icmp_eq h 10 d_M_takes_5 (by decide) ⟨by omega, by omega⟩ ⟨by omega, by omega⟩ (fun q5 => ?_) (fun q5 => ?_)
    · refine jj_aload_n h d_M_takes_10 rfl ⟨_, rfl⟩ ?_
      refine jj_dup h d_M_takes_11 rfl ?_
      refine jj_g_M_at h  fl_M_93 d_M_takes_12 ?_
      try simp only [st_at, Nat.reduceEqDiff, Int.reduceEq, and_self, true_and, and_true, false_and, and_false, reduceIte, hat]
      refine jj_iconst h d_M_takes_15 ?_
      refine jj_iadd h d_M_takes_16 ?_
      refine jj_p_M_at h  fl_M_93 d_M_takes_17 ?_
      refine jj_iconst h d_M_takes_20 ?_
      refine jj_zret h he (by omega) d_M_takes_21 ?_
      simp [tk_, q5]
    · refine jj_iconst h d_M_takes_8 ?_
      refine jj_zret h he (by omega) d_M_takes_9 ?_
      simp [tk_, q5]
  · rw [slc_nil (by omega)] at he
    refine jj_aload_n h d_M_takes_0 rfl ⟨_, rfl⟩ ?_
    refine jj_callV h (cM_now2 hs) cv_M_99 (ro_of he (by decide) (by decide)) rfl rfl (by decide) rfl rfl rfl (Nat.le_of_ble_eq_true rfl) d_M_takes_1 (fun v m1 hv => ?_)
    obtain ⟨rfl, rfl⟩ := hv
    rw [if_neg hqs]
    refine jj_iload_n h d_M_takes_4 rfl ?_
    refine jj_icmp_eq h 10 d_M_takes_5 (by decide) ⟨by omega, by omega⟩ ⟨by omega, by omega⟩ (fun q5 => absurd q5 (by omega)) (fun _ => ?_)
    refine jj_iconst h d_M_takes_8 ?_
    refine jj_zret h he (by omega) d_M_takes_9 ?_
    exact ⟨rfl, rfl⟩
