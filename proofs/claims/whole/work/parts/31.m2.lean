/-! The reference: lines' texts, names, scanning. -/
def textEnd_ (f : Int → Int) (p e : Int) : Int := if lineEnd_ f p e = p ∨ ¬ f (lineEnd_ f p e - 1) = 10 then lineEnd_ f p e else if p < lineEnd_ f p e - 1 ∧ f (lineEnd_ f p e - 2) = 13 then lineEnd_ f p e - 2 else lineEnd_ f p e - 1
theorem textEnd_b {f : Int → Int} {p e : Int} (h : p ≤ e) : p ≤ textEnd_ f p e ∧ textEnd_ f p e ≤ lineEnd_ f p e ∧ textEnd_ f p e ≤ e := by
  have q := lineEnd_b (f := f) (e := e) _ p rfl h
  unfold textEnd_
  split
  · omega
  · split <;> omega
theorem cM_textEnd {G : mt_G} {l : Launch} {mem : mt_M} {p e : Int} (h0 : 0 ≤ p) (h1 : p ≤ e) (h2 : e ≤ 320) (hb : by_ (mem 184) p e) : CT G l y_M_textEnd c_M_textEnd 4 (some .int) 2 [vr G 182, vi p, vi e] mem (fun v m' => v = some (vi (textEnd_ (mem 184) p e)) ∧ mem = m') := by
  have hq := lineEnd_b (f := mem 184) (e := e) _ p rfl h1
  refine CT.intro (by decide) rfl (Nat.le_of_ble_eq_true rfl) (fun X h he => ?_)
  unfold textEnd_ at he
  refine jj_aload_n h d_M_textEnd_0 rfl ⟨_, rfl⟩ ?_
  refine jj_iload_n h d_M_textEnd_1 rfl ?_
  refine jj_iload_n h d_M_textEnd_2 rfl ?_
  refine jj_callV h (cM_lineEnd h0 h1 h2 hb) cv_M_52 (ro_of he (by decide) (by decide)) rfl rfl (by decide) rfl rfl rfl (Nat.le_of_ble_eq_true rfl) d_M_textEnd_3 (fun v m1 hv => ?_)
  obtain ⟨rfl, rfl⟩ := hv
  refine jj_istore_n h d_M_textEnd_6 (Nat.le_of_ble_eq_true rfl) rfl ?_
  refine jj_iload_n h d_M_textEnd_7 rfl ?_
  refine jj_iload_n h d_M_textEnd_8 rfl ?_
  refine jj_icmp_eq h 25 d_M_textEnd_9 (by decide) ⟨by omega, by omega⟩ ⟨by omega, by omega⟩ (fun q9 => ?_) (fun q9 => ?_)
  · refine jj_iload_n h d_M_textEnd_25 rfl ?_
    refine jj_iret h he d_M_textEnd_26 ?_
    exact ⟨by rw [if_pos (by omega)], rfl⟩
  · have hq2 := hb (lineEnd_ (mem 184) p e - 1) (by omega) (by omega)
    refine jj_aload_n h d_M_textEnd_12 rfl ⟨_, rfl⟩ ?_
    refine jj_g_M_src h  fl_M_13 d_M_textEnd_13 ?_
    refine jj_iload_n h d_M_textEnd_16 rfl ?_
    refine jj_iconst h d_M_textEnd_17 ?_
    refine jj_isub h d_M_textEnd_18 ?_
    refine jj_iaload (N := 320) h (by decide) rfl (by decide) (by omega) (by omega) d_M_textEnd_19 ?_
    refine jj_bipush h d_M_textEnd_20 (by decide) ?_
    refine jj_icmp_eq h 27 d_M_textEnd_22 (by decide) ⟨by omega, by omega⟩ ⟨by omega, by omega⟩ (fun q22 => ?_) (fun q22 => ?_)
    · refine jj_iinc h d_M_textEnd_27 rfl rfl ?_
      refine jj_iload_n h d_M_textEnd_30 rfl ?_
      refine jj_iload_n h d_M_textEnd_31 rfl ?_
      refine jj_icmp_le h 54 d_M_textEnd_32 (by decide) ⟨by omega, by omega⟩ ⟨by omega, by omega⟩ (fun q32 => ?_) (fun q32 => ?_)
      · refine jj_iload_n h d_M_textEnd_54 rfl ?_
        refine jj_iret h he d_M_textEnd_55 ?_
        first | exact ⟨by rw [if_neg (by omega), if_neg (by omega)]; congr 2, rfl⟩ | exact ⟨by rw [if_neg (by omega), if_pos (by omega)]; congr 2; omega, rfl⟩
      · have hq3 := hb (lineEnd_ (mem 184) p e - 2) (by omega) (by omega)
        refine jj_aload_n h d_M_textEnd_35 rfl ⟨_, rfl⟩ ?_
        refine jj_g_M_src h  fl_M_13 d_M_textEnd_36 ?_
        refine jj_iload_n h d_M_textEnd_39 rfl ?_
        refine jj_iconst h d_M_textEnd_40 ?_
        refine jj_isub h d_M_textEnd_41 ?_
        refine jj_iaload (N := 320) h (by decide) rfl (by decide) (by omega) (by omega) d_M_textEnd_42 ?_
        rw [show lineEnd_ (mem 184) p e + -1 - 1 = lineEnd_ (mem 184) p e - 2 by omega]
        refine jj_bipush h d_M_textEnd_43 (by decide) ?_
        refine jj_icmp_ne h 54 d_M_textEnd_45 (by decide) ⟨by omega, by omega⟩ ⟨by omega, by omega⟩ (fun q45 => ?_) (fun q45 => ?_)
        · refine jj_iload_n h d_M_textEnd_54 rfl ?_
          refine jj_iret h he d_M_textEnd_55 ?_
          first | exact ⟨by rw [if_neg (by omega), if_neg (by omega)]; congr 2, rfl⟩ | exact ⟨by rw [if_neg (by omega), if_pos (by omega)]; congr 2; omega, rfl⟩
        · refine jj_iload_n h d_M_textEnd_48 rfl ?_
          refine jj_iconst h d_M_textEnd_49 ?_
          refine jj_isub h d_M_textEnd_50 ?_
          refine jj_goto h 55 d_M_textEnd_51 (by decide) ?_
          refine jj_iret h he d_M_textEnd_55 ?_
          first | exact ⟨by rw [if_neg (by omega), if_neg (by omega)]; congr 2, rfl⟩ | exact ⟨by rw [if_neg (by omega), if_pos (by omega)]; congr 2; omega, rfl⟩
    · refine jj_iload_n h d_M_textEnd_25 rfl ?_
      refine jj_iret h he d_M_textEnd_26 ?_
      exact ⟨by rw [if_pos (by omega)], rfl⟩
/-- how many bytes of a name stand at p, with a ":" behind them; else 0 -/
def nb_ (c : Int) : Prop := 33 ≤ c ∧ c ≤ 126 ∧ c ≠ 58
def ns_ (f : Int → Int) (p e : Int) : Nat → Int → Int
  | 0, _ => 0
  | n + 1, q => if 32 < f q ∧ f q < 127 ∧ f q ≠ 58 then ns_ f p e n (q + 1) else if f q = 58 then q - p else 0
def nameSize_ (f : Int → Int) (p e : Int) : Int := ns_ f p e (e - p).toNat p
theorem cM_nameSize {G : mt_G} {l : Launch} {mem : mt_M} {p e : Int} (h0 : 0 ≤ p) (h1 : p ≤ e) (h2 : e ≤ 320) (hb : by_ (mem 184) p e) : CT G l y_M_nameSize c_M_nameSize 4 (some .int) 1 [vr G 182, vi p, vi e] mem (fun v m' => v = some (vi (nameSize_ (mem 184) p e)) ∧ mem = m') := by
  refine CT.intro (by decide) rfl (Nat.le_of_ble_eq_true rfl) (fun X h he => ?_)
  have loop : ∀ (n : Nat) (q : Int), (e - q).toNat = n → p ≤ q → q ≤ e → nameSize_ (mem 184) p e = ns_ (mem 184) p e n q → JJ G X 0 0 mem 2 [some (vr G 182), some (vi p), some (vi e), some (vi q)] [] := by
    intro n
    induction n with
    | zero =>
      intro q hn hp hq hq2
      refine jj_iload_n h d_M_nameSize_2 rfl ?_
      refine jj_iload_n h d_M_nameSize_3 rfl ?_
      refine jj_icmp_ge h 46 d_M_nameSize_4 (by decide) ⟨by omega, by omega⟩ ⟨by omega, by omega⟩ (fun _ => ?_) (fun q4 => absurd (by omega) q4)
      refine jj_iload_n h d_M_nameSize_46 rfl ?_
      refine jj_iload_n h d_M_nameSize_47 rfl ?_
      refine jj_icmp_ge h 68 d_M_nameSize_48 (by decide) ⟨by omega, by omega⟩ ⟨by omega, by omega⟩ (fun _ => ?_) (fun q48 => absurd (by omega) q48)
      refine jj_iconst h d_M_nameSize_68 ?_
      refine jj_iret h he d_M_nameSize_69 ?_
      exact ⟨by rw [hq2]; rfl, rfl⟩
    | succ n ih =>
      intro q hn hp hq hq2
      have hq3 := hb q hp (by omega)
      unfold ns_ at hq2
      refine jj_iload_n h d_M_nameSize_2 rfl ?_
      refine jj_iload_n h d_M_nameSize_3 rfl ?_
      refine jj_icmp_ge h 46 d_M_nameSize_4 (by decide) ⟨by omega, by omega⟩ ⟨by omega, by omega⟩ (fun q4 => absurd q4 (by omega)) (fun _ => ?_)
      refine jj_aload_n h d_M_nameSize_7 rfl ⟨_, rfl⟩ ?_
      refine jj_g_M_src h  fl_M_13 d_M_nameSize_8 ?_
      refine jj_iload_n h d_M_nameSize_11 rfl ?_
      refine jj_iaload (N := 320) h (by decide) rfl (by decide) (by omega) (by omega) d_M_nameSize_12 ?_
      refine jj_bipush h d_M_nameSize_13 (by decide) ?_
      refine jj_icmp_le h 46 d_M_nameSize_15 (by decide) ⟨by omega, by omega⟩ ⟨by omega, by omega⟩ (fun q15 => ?_) (fun q15 => ?_)
      · refine jj_iload_n h d_M_nameSize_46 rfl ?_
        refine jj_iload_n h d_M_nameSize_47 rfl ?_
        refine jj_icmp_ge h 68 d_M_nameSize_48 (by decide) ⟨by omega, by omega⟩ ⟨by omega, by omega⟩ (fun q48 => absurd q48 (by omega)) (fun _ => ?_)
        refine jj_aload_n h d_M_nameSize_51 rfl ⟨_, rfl⟩ ?_
        refine jj_g_M_src h  fl_M_13 d_M_nameSize_52 ?_
        refine jj_iload_n h d_M_nameSize_55 rfl ?_
        refine jj_iaload (N := 320) h (by decide) rfl (by decide) (by omega) (by omega) d_M_nameSize_56 ?_
        refine jj_bipush h d_M_nameSize_57 (by decide) ?_
        refine jj_icmp_ne h 68 d_M_nameSize_59 (by decide) ⟨by omega, by omega⟩ ⟨by omega, by omega⟩ (fun q59 => ?_) (fun q59 => ?_)
        · refine jj_iconst h d_M_nameSize_68 ?_
          refine jj_iret h he d_M_nameSize_69 ?_
          first | (exfalso; omega) | exact ⟨by rw [hq2, if_neg (by omega), if_neg (by omega)], rfl⟩ | exact ⟨by rw [hq2, if_neg (by omega), if_pos (by omega)], rfl⟩
        · refine jj_iload_n h d_M_nameSize_62 rfl ?_
          refine jj_iload_n h d_M_nameSize_63 rfl ?_
          refine jj_isub h d_M_nameSize_64 ?_
          refine jj_goto h 69 d_M_nameSize_65 (by decide) ?_
          refine jj_iret h he d_M_nameSize_69 ?_
          first | (exfalso; omega) | exact ⟨by rw [hq2, if_neg (by omega), if_neg (by omega)], rfl⟩ | exact ⟨by rw [hq2, if_neg (by omega), if_pos (by omega)], rfl⟩
      · refine jj_aload_n h d_M_nameSize_18 rfl ⟨_, rfl⟩ ?_
        refine jj_g_M_src h  fl_M_13 d_M_nameSize_19 ?_
        refine jj_iload_n h d_M_nameSize_22 rfl ?_
        refine jj_iaload (N := 320) h (by decide) rfl (by decide) (by omega) (by omega) d_M_nameSize_23 ?_
        refine jj_bipush h d_M_nameSize_24 (by decide) ?_
        refine jj_icmp_ge h 46 d_M_nameSize_26 (by decide) ⟨by omega, by omega⟩ ⟨by omega, by omega⟩ (fun q26 => ?_) (fun q26 => ?_)
        · refine jj_iload_n h d_M_nameSize_46 rfl ?_
          refine jj_iload_n h d_M_nameSize_47 rfl ?_
          refine jj_icmp_ge h 68 d_M_nameSize_48 (by decide) ⟨by omega, by omega⟩ ⟨by omega, by omega⟩ (fun q48 => absurd q48 (by omega)) (fun _ => ?_)
          refine jj_aload_n h d_M_nameSize_51 rfl ⟨_, rfl⟩ ?_
          refine jj_g_M_src h  fl_M_13 d_M_nameSize_52 ?_
          refine jj_iload_n h d_M_nameSize_55 rfl ?_
          refine jj_iaload (N := 320) h (by decide) rfl (by decide) (by omega) (by omega) d_M_nameSize_56 ?_
          refine jj_bipush h d_M_nameSize_57 (by decide) ?_
          refine jj_icmp_ne h 68 d_M_nameSize_59 (by decide) ⟨by omega, by omega⟩ ⟨by omega, by omega⟩ (fun q59 => ?_) (fun q59 => ?_)
          · refine jj_iconst h d_M_nameSize_68 ?_
            refine jj_iret h he d_M_nameSize_69 ?_
            first | (exfalso; omega) | exact ⟨by rw [hq2, if_neg (by omega), if_neg (by omega)], rfl⟩ | exact ⟨by rw [hq2, if_neg (by omega), if_pos (by omega)], rfl⟩
          · refine jj_iload_n h d_M_nameSize_62 rfl ?_
            refine jj_iload_n h d_M_nameSize_63 rfl ?_
            refine jj_isub h d_M_nameSize_64 ?_
            refine jj_goto h 69 d_M_nameSize_65 (by decide) ?_
            refine jj_iret h he d_M_nameSize_69 ?_
            first | (exfalso; omega) | exact ⟨by rw [hq2, if_neg (by omega), if_neg (by omega)], rfl⟩ | exact ⟨by rw [hq2, if_neg (by omega), if_pos (by omega)], rfl⟩
        · refine jj_aload_n h d_M_nameSize_29 rfl ⟨_, rfl⟩ ?_
          refine jj_g_M_src h  fl_M_13 d_M_nameSize_30 ?_
          refine jj_iload_n h d_M_nameSize_33 rfl ?_
          refine jj_iaload (N := 320) h (by decide) rfl (by decide) (by omega) (by omega) d_M_nameSize_34 ?_
          refine jj_bipush h d_M_nameSize_35 (by decide) ?_
          refine jj_icmp_eq h 46 d_M_nameSize_37 (by decide) ⟨by omega, by omega⟩ ⟨by omega, by omega⟩ (fun q37 => ?_) (fun q37 => ?_)
          · refine jj_iload_n h d_M_nameSize_46 rfl ?_
            refine jj_iload_n h d_M_nameSize_47 rfl ?_
            refine jj_icmp_ge h 68 d_M_nameSize_48 (by decide) ⟨by omega, by omega⟩ ⟨by omega, by omega⟩ (fun q48 => absurd q48 (by omega)) (fun _ => ?_)
            refine jj_aload_n h d_M_nameSize_51 rfl ⟨_, rfl⟩ ?_
            refine jj_g_M_src h  fl_M_13 d_M_nameSize_52 ?_
            refine jj_iload_n h d_M_nameSize_55 rfl ?_
            refine jj_iaload (N := 320) h (by decide) rfl (by decide) (by omega) (by omega) d_M_nameSize_56 ?_
            refine jj_bipush h d_M_nameSize_57 (by decide) ?_
            refine jj_icmp_ne h 68 d_M_nameSize_59 (by decide) ⟨by omega, by omega⟩ ⟨by omega, by omega⟩ (fun q59 => ?_) (fun q59 => ?_)
            · refine jj_iconst h d_M_nameSize_68 ?_
              refine jj_iret h he d_M_nameSize_69 ?_
              first | (exfalso; omega) | exact ⟨by rw [hq2, if_neg (by omega), if_neg (by omega)], rfl⟩ | exact ⟨by rw [hq2, if_neg (by omega), if_pos (by omega)], rfl⟩
            · refine jj_iload_n h d_M_nameSize_62 rfl ?_
              refine jj_iload_n h d_M_nameSize_63 rfl ?_
              refine jj_isub h d_M_nameSize_64 ?_
              refine jj_goto h 69 d_M_nameSize_65 (by decide) ?_
              refine jj_iret h he d_M_nameSize_69 ?_
              first | (exfalso; omega) | exact ⟨by rw [hq2, if_neg (by omega), if_neg (by omega)], rfl⟩ | exact ⟨by rw [hq2, if_neg (by omega), if_pos (by omega)], rfl⟩
          · refine jj_iinc h d_M_nameSize_40 rfl rfl ?_
            refine jj_goto h 2 d_M_nameSize_43 (by decide) ?_
            exact ih (q + 1) (by omega) (by omega) (by omega) (by rw [hq2, if_pos (by omega)])
  refine jj_iload_n h d_M_nameSize_0 rfl ?_
  refine jj_istore_n h d_M_nameSize_1 (Nat.le_of_ble_eq_true rfl) rfl ?_
  exact loop _ p rfl (by omega) h1 rfl
theorem slc_suf {f : Int → Int} {a s : Int} (h : a ≤ s) {l' : List Int} (hl : l' <:+ slc f a s) : slc f (s - l'.length) s = l' ∧ a ≤ s - l'.length ∧ (l'.length : Int) ≤ s - a := by
  obtain ⟨t, ht⟩ := hl
  have e1 := congrArg List.length ht
  rw [List.length_append, slc_len] at e1
  have e2 : slc f a s = slc f a (s - l'.length) ++ slc f (s - l'.length) s := slc_app (by omega) (by omega)
  rw [← ht] at e2
  have e3 := List.append_inj_right' e2 (by rw [slc_len]; omega)
  exact ⟨e3.symm, by omega, by omega⟩
theorem at_t {c : Int} (h : at_ c = true) : 33 ≤ c ∧ c ≤ 126 ∧ ¬ (c = 40 ∨ c = 41 ∨ c = 60 ∨ c = 62 ∨ c = 64 ∨ c = 44 ∨ c = 59 ∨ c = 58 ∨ c = 92 ∨ c = 34 ∨ c = 47 ∨ c = 91 ∨ c = 93 ∨ c = 63 ∨ c = 61) := of_decide_eq_true h
theorem cM_isAtom {G : mt_G} {l : Launch} {mem : mt_M} {c : Int} (hc : r32 c) : CT G l y_M_isAtom c_M_isAtom 1 (some .boolean) 1 [vi c] mem (fun v m' => v = some (vi (if at_ c then 1 else 0)) ∧ mem = m') := by
  obtain ⟨hc1, hc2⟩ := hc
  refine CT.intro (by decide) rfl (Nat.le_of_ble_eq_true rfl) (fun X h he => ?_)
  refine jj_iload_n h d_M_isAtom_0 rfl ?_
  refine jj_bipush h d_M_isAtom_1 (by decide) ?_
  refine jj_icmp_lt h 12 d_M_isAtom_3 (by decide) ⟨by omega, by omega⟩ ⟨by omega, by omega⟩ (fun q3 => ?_) (fun q3 => ?_)
  · refine jj_iconst h d_M_isAtom_12 ?_
    refine jj_zret h he (by omega) d_M_isAtom_13 ?_
    exact ⟨by rw [if_neg (fun q => by have := at_t q; omega)], rfl⟩
  · refine jj_iload_n h d_M_isAtom_6 rfl ?_
    refine jj_bipush h d_M_isAtom_7 (by decide) ?_
    refine jj_icmp_le h 14 d_M_isAtom_9 (by decide) ⟨by omega, by omega⟩ ⟨by omega, by omega⟩ (fun q9 => ?_) (fun q9 => ?_)
    · refine jj_iload_n h d_M_isAtom_14 rfl ?_
      by_cases q0 : c = 33 ∨ 93 < c
      · refine jj_tableOut h 270 d_M_isAtom_15 ⟨by omega, by omega⟩ (by omega) (by decide) ?_
        refine jj_iconst h d_M_isAtom_270 ?_
        refine jj_zret h he (by omega) d_M_isAtom_271 ?_
        have q2 : at_ c = true := decide_eq_true (by omega)
        exact ⟨by rw [if_pos q2], rfl⟩
      · have q1 : c = 34 ∨ c = 35 ∨ c = 36 ∨ c = 37 ∨ c = 38 ∨ c = 39 ∨ c = 40 ∨ c = 41 ∨ c = 42 ∨ c = 43 ∨ c = 44 ∨ c = 45 ∨ c = 46 ∨ c = 47 ∨ c = 48 ∨ c = 49 ∨ c = 50 ∨ c = 51 ∨ c = 52 ∨ c = 53 ∨ c = 54 ∨ c = 55 ∨ c = 56 ∨ c = 57 ∨ c = 58 ∨ c = 59 ∨ c = 60 ∨ c = 61 ∨ c = 62 ∨ c = 63 ∨ c = 64 ∨ c = 65 ∨ c = 66 ∨ c = 67 ∨ c = 68 ∨ c = 69 ∨ c = 70 ∨ c = 71 ∨ c = 72 ∨ c = 73 ∨ c = 74 ∨ c = 75 ∨ c = 76 ∨ c = 77 ∨ c = 78 ∨ c = 79 ∨ c = 80 ∨ c = 81 ∨ c = 82 ∨ c = 83 ∨ c = 84 ∨ c = 85 ∨ c = 86 ∨ c = 87 ∨ c = 88 ∨ c = 89 ∨ c = 90 ∨ c = 91 ∨ c = 92 ∨ c = 93 := by omega
        rcases q1 with rfl | rfl | rfl | rfl | rfl | rfl | rfl | rfl | rfl | rfl | rfl | rfl | rfl | rfl | rfl | rfl | rfl | rfl | rfl | rfl | rfl | rfl | rfl | rfl | rfl | rfl | rfl | rfl | rfl | rfl | rfl | rfl | rfl | rfl | rfl | rfl | rfl | rfl | rfl | rfl | rfl | rfl | rfl | rfl | rfl | rfl | rfl | rfl | rfl | rfl | rfl | rfl | rfl | rfl | rfl | rfl | rfl | rfl | rfl | rfl <;> first
          | (refine jj_tableIn h 268 d_M_isAtom_15 ⟨by decide, by decide⟩ (by decide) (by decide) rfl (by decide) ?_
             refine jj_iconst h d_M_isAtom_268 ?_
             refine jj_zret h he (by omega) d_M_isAtom_269 ?_
             exact ⟨by decide, rfl⟩)
          | (refine jj_tableIn h 270 d_M_isAtom_15 ⟨by decide, by decide⟩ (by decide) (by decide) rfl (by decide) ?_
             refine jj_iconst h d_M_isAtom_270 ?_
             refine jj_zret h he (by omega) d_M_isAtom_271 ?_
             exact ⟨by decide, rfl⟩)
    · refine jj_iconst h d_M_isAtom_12 ?_
      refine jj_zret h he (by omega) d_M_isAtom_13 ?_
      exact ⟨by rw [if_neg (fun q => by have := at_t q; omega)], rfl⟩
