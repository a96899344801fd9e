/-! The reference's small methods. -/
def by_ (f : Int → Int) (p e : Int) : Prop := ∀ i : Int, p ≤ i → i < e → 0 ≤ f i ∧ f i ≤ 255
theorem by_.sub {f : Int → Int} {p e p' e' : Int} (h : by_ f p e) (h1 : p ≤ p') (h2 : e' ≤ e) : by_ f p' e' := fun i a b => h i (by omega) (by omega)
theorem cM_isBlank {G : mt_G} {l : Launch} {mem : mt_M} {c : Int} (hc : r32 c) : CT G l y_M_isBlank c_M_isBlank 1 (some .boolean) 1 [vi c] mem (fun v m' => v = some (vi (if bl_ c then 1 else 0)) ∧ mem = m') := by
  obtain ⟨hc1, hc2⟩ := hc
  refine CT.intro (by decide) rfl (Nat.le_of_ble_eq_true rfl) (fun X h he => ?_)
  refine jj_iload_n h d_M_isBlank_0 rfl ?_
  refine jj_bipush h d_M_isBlank_1 (by decide) ?_
  refine jj_icmp_eq h 12 d_M_isBlank_3 (by decide) ⟨by omega, by omega⟩ ⟨by omega, by omega⟩ (fun q3 => ?_) (fun q3 => ?_)
  · refine jj_iconst h d_M_isBlank_12 ?_
    refine jj_goto h 17 d_M_isBlank_13 (by decide) ?_
    refine jj_zret h he (by omega) d_M_isBlank_17 ?_
    exact ⟨by congr 2; simp only [bl_]; split <;> omega, rfl⟩
  · refine jj_iload_n h d_M_isBlank_6 rfl ?_
    refine jj_bipush h d_M_isBlank_7 (by decide) ?_
    refine jj_icmp_ne h 16 d_M_isBlank_9 (by decide) ⟨by omega, by omega⟩ ⟨by omega, by omega⟩ (fun q9 => ?_) (fun q9 => ?_)
    · refine jj_iconst h d_M_isBlank_16 ?_
      refine jj_zret h he (by omega) d_M_isBlank_17 ?_
      exact ⟨by congr 2; simp only [bl_]; split <;> omega, rfl⟩
    · refine jj_iconst h d_M_isBlank_12 ?_
      refine jj_goto h 17 d_M_isBlank_13 (by decide) ?_
      refine jj_zret h he (by omega) d_M_isBlank_17 ?_
      exact ⟨by congr 2; simp only [bl_]; split <;> omega, rfl⟩
theorem cM_small {G : mt_G} {l : Launch} {mem : mt_M} {c : Int} (hc : r32 c) : CT G l y_M_small c_M_small 1 (some .int) 1 [vi c] mem (fun v m' => v = some (vi (sm_ c)) ∧ mem = m') := by
  obtain ⟨hc1, hc2⟩ := hc
  refine CT.intro (by decide) rfl (Nat.le_of_ble_eq_true rfl) (fun X h he => ?_)
  refine jj_iload_n h d_M_small_0 rfl ?_
  refine jj_bipush h d_M_small_1 (by decide) ?_
  refine jj_icmp_lt h 19 d_M_small_3 (by decide) ⟨by omega, by omega⟩ ⟨by omega, by omega⟩ (fun q3 => ?_) (fun q3 => ?_)
  · refine jj_iload_n h d_M_small_19 rfl ?_
    refine jj_iret h he d_M_small_20 ?_
    exact ⟨by congr 2; simp only [sm_]; split <;> omega, rfl⟩
  · refine jj_iload_n h d_M_small_6 rfl ?_
    refine jj_bipush h d_M_small_7 (by decide) ?_
    refine jj_icmp_gt h 19 d_M_small_9 (by decide) ⟨by omega, by omega⟩ ⟨by omega, by omega⟩ (fun q9 => ?_) (fun q9 => ?_)
    · refine jj_iload_n h d_M_small_19 rfl ?_
      refine jj_iret h he d_M_small_20 ?_
      exact ⟨by congr 2; simp only [sm_]; split <;> omega, rfl⟩
    · refine jj_iload_n h d_M_small_12 rfl ?_
      refine jj_bipush h d_M_small_13 (by decide) ?_
      refine jj_iadd h d_M_small_15 ?_
      refine jj_goto h 20 d_M_small_16 (by decide) ?_
      refine jj_iret h he d_M_small_20 ?_
      exact ⟨by congr 2; simp only [sm_]; split <;> omega, rfl⟩
theorem cM_thrown {G : mt_G} {l : Launch} {mem : mt_M} : CT G l y_M_thrown c_M_thrown 1 (some .int) 1 [vr G 182] mem (fun v m' => v = some (vi (mem 182 0)) ∧ mem = m') := by
  refine CT.intro (by decide) rfl (Nat.le_of_ble_eq_true rfl) (fun X h he => ?_)
  refine jj_aload_n h d_M_thrown_0 rfl ⟨_, rfl⟩ ?_
  refine jj_g_M_thrown h  fl_M_43 d_M_thrown_1 ?_
  refine jj_iret h he d_M_thrown_4 ?_
  exact ⟨rfl, rfl⟩
/-- one number more behind the text -/
def k1 (mem : mt_M) (c : Int) : mt_M := st_ (st_ mem 187 (mem 182 9) c) 182 9 (mem 182 9 + 1)
theorem cM_keep {G : mt_G} {l : Launch} {mem : mt_M} {c : Int} (h0 : 0 ≤ mem 182 9) (h1 : mem 182 9 < 1400) : CT G l y_M_keep c_M_keep 2 none 1 [vr G 182, vi c] mem (fun v m' => v = none ∧ k1 mem c = m') := by
  refine CT.intro (by decide) rfl (Nat.le_of_ble_eq_true rfl) (fun X h he => ?_)
  refine jj_aload_n h d_M_keep_0 rfl ⟨_, rfl⟩ ?_
  refine jj_g_M_text h  fl_M_22 d_M_keep_1 ?_
  refine jj_aload_n h d_M_keep_4 rfl ⟨_, rfl⟩ ?_
  refine jj_g_M_textSize h  fl_M_56 d_M_keep_5 ?_
  refine jj_iload_n h d_M_keep_8 rfl ?_
  refine jj_iastore (N := 1400) h (by decide) (fun _ => rfl) (by decide) (by omega) (by omega) d_M_keep_9 ?_
  refine jj_aload_n h d_M_keep_10 rfl ⟨_, rfl⟩ ?_
  refine jj_dup h d_M_keep_11 rfl ?_
  refine jj_g_M_textSize h  fl_M_56 d_M_keep_12 ?_
  refine jj_iconst h d_M_keep_15 ?_
  refine jj_iadd h d_M_keep_16 ?_
  refine jj_p_M_textSize h  fl_M_56 d_M_keep_17 ?_
  refine jj_vret h he d_M_keep_20 ?_
  exact ⟨rfl, rfl⟩
theorem cM_of {G : mt_G} {l : Launch} {mem : mt_M} {e w : Int} (h0 : 0 ≤ 16 * e + w) (h1 : 16 * e + w < 256) : CT G l y_M_of c_M_of 3 (some .int) 1 [vr G 182, vi e, vi w] mem (fun v m' => v = some (vi (mem 185 (16 * e + w))) ∧ mem = m') := by
  refine CT.intro (by decide) rfl (Nat.le_of_ble_eq_true rfl) (fun X h he => ?_)
  refine jj_aload_n h d_M_of_0 rfl ⟨_, rfl⟩ ?_
  refine jj_g_M_data h  fl_M_16 d_M_of_1 ?_
  refine jj_bipush h d_M_of_4 (by decide) ?_
  refine jj_iload_n h d_M_of_6 rfl ?_
  refine jj_imul h d_M_of_7 ?_
  refine jj_iload_n h d_M_of_8 rfl ?_
  refine jj_iadd h d_M_of_9 ?_
  refine jj_iaload (N := 256) h (by decide) rfl (by decide) (by omega) (by omega) d_M_of_10 ?_
  refine jj_iret h he d_M_of_11 ?_
  exact ⟨rfl, rfl⟩
theorem cM_set {G : mt_G} {l : Launch} {mem : mt_M} {e w x : Int} (h0 : 0 ≤ 16 * e + w) (h1 : 16 * e + w < 256) : CT G l y_M_set c_M_set 4 none 1 [vr G 182, vi e, vi w, vi x] mem (fun v m' => v = none ∧ st_ mem 185 (16 * e + w) x = m') := by
  refine CT.intro (by decide) rfl (Nat.le_of_ble_eq_true rfl) (fun X h he => ?_)
  refine jj_aload_n h d_M_set_0 rfl ⟨_, rfl⟩ ?_
  refine jj_g_M_data h  fl_M_16 d_M_set_1 ?_
  refine jj_bipush h d_M_set_4 (by decide) ?_
  refine jj_iload_n h d_M_set_6 rfl ?_
  refine jj_imul h d_M_set_7 ?_
  refine jj_iload_n h d_M_set_8 rfl ?_
  refine jj_iadd h d_M_set_9 ?_
  refine jj_iload_n h d_M_set_10 rfl ?_
  refine jj_iastore (N := 256) h (by decide) (fun _ => rfl) (by decide) (by omega) (by omega) d_M_set_11 ?_
  refine jj_vret h he d_M_set_12 ?_
  exact ⟨rfl, rfl⟩
theorem cM_fieldOf {G : mt_G} {l : Launch} {mem : mt_M} {e f w : Int} (h0 : 0 ≤ 4 * (8 * e + f) + w) (h1 : 4 * (8 * e + f) + w < 512) : CT G l y_M_fieldOf c_M_fieldOf 4 (some .int) 1 [vr G 182, vi e, vi f, vi w] mem (fun v m' => v = some (vi (mem 186 (4 * (8 * e + f) + w))) ∧ mem = m') := by
  refine CT.intro (by decide) rfl (Nat.le_of_ble_eq_true rfl) (fun X h he => ?_)
  refine jj_aload_n h d_M_fieldOf_0 rfl ⟨_, rfl⟩ ?_
  refine jj_g_M_field h  fl_M_19 d_M_fieldOf_1 ?_
  refine jj_iconst h d_M_fieldOf_4 ?_
  refine jj_bipush h d_M_fieldOf_5 (by decide) ?_
  refine jj_iload_n h d_M_fieldOf_7 rfl ?_
  refine jj_imul h d_M_fieldOf_8 ?_
  refine jj_iload_n h d_M_fieldOf_9 rfl ?_
  refine jj_iadd h d_M_fieldOf_10 ?_
  refine jj_imul h d_M_fieldOf_11 ?_
  refine jj_iload_n h d_M_fieldOf_12 rfl ?_
  refine jj_iadd h d_M_fieldOf_13 ?_
  refine jj_iaload (N := 512) h (by decide) rfl (by decide) (by omega) (by omega) d_M_fieldOf_14 ?_
  refine jj_iret h he d_M_fieldOf_15 ?_
  exact ⟨rfl, rfl⟩
/-- now(): -1 behind the end -/
theorem cM_now {G : mt_G} {l : Launch} {mem : mt_M} (h0 : 0 ≤ mem 182 13) (h1 : mem 182 14 ≤ 1400) (h2 : 0 ≤ mem 182 14) (h3 : mem 182 13 ≤ 1400) : CT G l y_M_now c_M_now 1 (some .int) 1 [vr G 182] mem (fun v m' => v = some (vi (if mem 182 13 < mem 182 14 then mem 187 (mem 182 13) else -1)) ∧ mem = m') := by
  refine CT.intro (by decide) rfl (Nat.le_of_ble_eq_true rfl) (fun X h he => ?_)
  refine jj_aload_n h d_M_now_0 rfl ⟨_, rfl⟩ ?_
  refine jj_g_M_at h  fl_M_93 d_M_now_1 ?_
  refine jj_aload_n h d_M_now_4 rfl ⟨_, rfl⟩ ?_
  refine jj_g_M_stop h  fl_M_96 d_M_now_5 ?_
  refine jj_icmp_ge h 23 d_M_now_8 (by decide) ⟨by omega, by omega⟩ ⟨by omega, by omega⟩ (fun q8 => ?_) (fun q8 => ?_)
  · refine jj_iconst h d_M_now_23 ?_
    refine jj_iret h he d_M_now_24 ?_
    first | exact ⟨by rw [if_neg (by omega)], rfl⟩ | exact ⟨by rw [if_pos (by omega)], rfl⟩
  · refine jj_aload_n h d_M_now_11 rfl ⟨_, rfl⟩ ?_
    refine jj_g_M_text h  fl_M_22 d_M_now_12 ?_
    refine jj_aload_n h d_M_now_15 rfl ⟨_, rfl⟩ ?_
    refine jj_g_M_at h  fl_M_93 d_M_now_16 ?_
    refine jj_iaload (N := 1400) h (by decide) rfl (by decide) (by omega) (by omega) d_M_now_19 ?_
    refine jj_goto h 24 d_M_now_20 (by decide) ?_
    refine jj_iret h he d_M_now_24 ?_
    first | exact ⟨by rw [if_neg (by omega)], rfl⟩ | exact ⟨by rw [if_pos (by omega)], rfl⟩
def le_ (f : Int → Int) (e : Int) : Nat → Int → Int
  | 0, _ => e
  | n + 1, q => if f q = 10 then q + 1 else le_ f e n (q + 1)
/-- where the line that begins at p ends, its end with it -/
def lineEnd_ (f : Int → Int) (p e : Int) : Int := le_ f e (e - p).toNat p
theorem lineEnd_out {f : Int → Int} {p e : Int} (h : e ≤ p) : lineEnd_ f p e = e := by
  unfold lineEnd_; rw [show (e - p).toNat = 0 by omega]; rfl
theorem lineEnd_in {f : Int → Int} {p e : Int} (h : p < e) : lineEnd_ f p e = if f p = 10 then p + 1 else lineEnd_ f (p + 1) e := by
  unfold lineEnd_; rw [show (e - p).toNat = (e - (p + 1)).toNat + 1 by omega]; rfl
theorem lineEnd_b {f : Int → Int} {e : Int} : ∀ (n : Nat) (p : Int), (e - p).toNat = n → p ≤ e → p ≤ lineEnd_ f p e ∧ lineEnd_ f p e ≤ e ∧ (p < e → p < lineEnd_ f p e)
  | 0, p, hn, hp => by rw [lineEnd_out (by omega)]; omega
  | n + 1, p, hn, hp => by
    rw [lineEnd_in (by omega)]
    split
    · omega
    · have := lineEnd_b (f := f) (e := e) n (p + 1) (by omega) (by omega); omega
theorem cM_lineEnd {G : mt_G} {l : Launch} {mem : mt_M} {p e : Int} (h0 : 0 ≤ p) (h1 : p ≤ e) (h2 : e ≤ 320) (hb : by_ (mem 184) p e) : CT G l y_M_lineEnd c_M_lineEnd 4 (some .int) 1 [vr G 182, vi p, vi e] mem (fun v m' => v = some (vi (lineEnd_ (mem 184) p e)) ∧ mem = m') := by
  refine CT.intro (by decide) rfl (Nat.le_of_ble_eq_true rfl) (fun X h he => ?_)
  have loop : ∀ (n : Nat) (q : Int), (e - q).toNat = n → p ≤ q → q ≤ e → lineEnd_ (mem 184) p e = lineEnd_ (mem 184) q e → JJ G X 0 0 mem 2 [some (vr G 182), some (vi p), some (vi e), some (vi q)] [] := by
    intro n
    induction n with
    | zero =>
      intro q hn hp hq hq2
      refine jj_iload_n h d_M_lineEnd_2 rfl ?_
      refine jj_iload_n h d_M_lineEnd_3 rfl ?_
      refine jj_icmp_ge h 24 d_M_lineEnd_4 (by decide) ⟨by omega, by omega⟩ ⟨by omega, by omega⟩ (fun _ => ?_) (fun q4 => absurd (by omega) q4)
      refine jj_iload_n h d_M_lineEnd_24 rfl ?_
      refine jj_iload_n h d_M_lineEnd_25 rfl ?_
      refine jj_icmp_ge h 35 d_M_lineEnd_26 (by decide) ⟨by omega, by omega⟩ ⟨by omega, by omega⟩ (fun _ => ?_) (fun q26 => absurd (by omega) q26)
      refine jj_iload_n h d_M_lineEnd_35 rfl ?_
      refine jj_iret h he d_M_lineEnd_36 ?_
      exact ⟨by rw [hq2, lineEnd_out (by omega)], rfl⟩
    | succ n ih =>
      intro q hn hp hq hq2
      have hq3 := hb q hp (by omega)
      rw [lineEnd_in (p := q) (by omega)] at hq2
      refine jj_iload_n h d_M_lineEnd_2 rfl ?_
      refine jj_iload_n h d_M_lineEnd_3 rfl ?_
      refine jj_icmp_ge h 24 d_M_lineEnd_4 (by decide) ⟨by omega, by omega⟩ ⟨by omega, by omega⟩ (fun q4 => absurd q4 (by omega)) (fun _ => ?_)
      refine jj_aload_n h d_M_lineEnd_7 rfl ⟨_, rfl⟩ ?_
      refine jj_g_M_src h  fl_M_13 d_M_lineEnd_8 ?_
      refine jj_iload_n h d_M_lineEnd_11 rfl ?_
      refine jj_iaload (N := 320) h (by decide) rfl (by decide) (by omega) (by omega) d_M_lineEnd_12 ?_
      refine jj_bipush h d_M_lineEnd_13 (by decide) ?_
      refine jj_icmp_eq h 24 d_M_lineEnd_15 (by decide) ⟨by omega, by omega⟩ ⟨by omega, by omega⟩ (fun q15 => ?_) (fun q15 => ?_)
      · refine jj_iload_n h d_M_lineEnd_24 rfl ?_
        refine jj_iload_n h d_M_lineEnd_25 rfl ?_
        refine jj_icmp_ge h 35 d_M_lineEnd_26 (by decide) ⟨by omega, by omega⟩ ⟨by omega, by omega⟩ (fun q26 => absurd q26 (by omega)) (fun _ => ?_)
        refine jj_iload_n h d_M_lineEnd_29 rfl ?_
        refine jj_iconst h d_M_lineEnd_30 ?_
        refine jj_iadd h d_M_lineEnd_31 ?_
        refine jj_goto h 36 d_M_lineEnd_32 (by decide) ?_
        refine jj_iret h he d_M_lineEnd_36 ?_
        exact ⟨by rw [hq2, if_pos (by assumption)], rfl⟩
      · refine jj_iinc h d_M_lineEnd_18 rfl rfl ?_
        refine jj_goto h 2 d_M_lineEnd_21 (by decide) ?_
        exact ih (q + 1) (by omega) (by omega) (by omega) (by rw [hq2, if_neg (by assumption)])
  refine jj_iload_n h d_M_lineEnd_0 rfl ?_
  refine jj_istore_n h d_M_lineEnd_1 (Nat.le_of_ble_eq_true rfl) rfl ?_
  exact loop _ p rfl (by omega) h1 rfl
