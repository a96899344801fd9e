/-! The reference: contents out of quoted-printable. -/
def hx_ (c : Int) : Int := if 48 ≤ c ∧ c ≤ 57 then c - 48 else if 65 ≤ c ∧ c ≤ 70 then c - 55 else if 97 ≤ c ∧ c ≤ 102 then c - 87 else -1
theorem hx_b (c : Int) : -1 ≤ hx_ c ∧ hx_ c ≤ 15 := by unfold hx_; split; omega; split; omega; split <;> omega
theorem cM_hex {G : mt_G} {l : Launch} {mem : mt_M} {c : Int} (hc : r32 c) : CT G l y_M_hex c_M_hex 1 (some .int) 1 [vi c] mem (fun v m' => v = some (vi (hx_ c)) ∧ mem = m') := by
  obtain ⟨hc1, hc2⟩ := hc
  refine CT.intro (by decide) rfl (Nat.le_of_ble_eq_true rfl) (fun X h he => ?_)
  refine jj_iload_n h d_M_hex_0 rfl ?_
  refine jj_bipush h d_M_hex_1 (by decide) ?_
  refine jj_icmp_lt h 17 d_M_hex_3 (by decide) ⟨by omega, by omega⟩ ⟨by omega, by omega⟩ (fun q3 => ?_) (fun q3 => ?_)
  · refine jj_iload_n h d_M_hex_17 rfl ?_
    refine jj_bipush h d_M_hex_18 (by decide) ?_
    refine jj_icmp_lt h 34 d_M_hex_20 (by decide) ⟨by omega, by omega⟩ ⟨by omega, by omega⟩ (fun q20 => ?_) (fun q20 => ?_)
    · refine jj_iload_n h d_M_hex_34 rfl ?_
      refine jj_bipush h d_M_hex_35 (by decide) ?_
      refine jj_icmp_lt h 53 d_M_hex_37 (by decide) ⟨by omega, by omega⟩ ⟨by omega, by omega⟩ (fun q37 => ?_) (fun q37 => ?_)
      · refine jj_iconst h d_M_hex_53 ?_
        refine jj_iret h he d_M_hex_54 ?_
        refine ⟨?_, rfl⟩
        congr 2
        unfold hx_
        first | (rw [if_pos (by omega)]; done) | (rw [if_neg (by omega), if_pos (by omega)]; done) | (rw [if_neg (by omega), if_neg (by omega), if_pos (by omega)]; done) | (rw [if_neg (by omega), if_neg (by omega), if_neg (by omega)]; done)
      · refine jj_iload_n h d_M_hex_40 rfl ?_
        refine jj_bipush h d_M_hex_41 (by decide) ?_
        refine jj_icmp_gt h 53 d_M_hex_43 (by decide) ⟨by omega, by omega⟩ ⟨by omega, by omega⟩ (fun q43 => ?_) (fun q43 => ?_)
        · refine jj_iconst h d_M_hex_53 ?_
          refine jj_iret h he d_M_hex_54 ?_
          refine ⟨?_, rfl⟩
          congr 2
          unfold hx_
          first | (rw [if_pos (by omega)]; done) | (rw [if_neg (by omega), if_pos (by omega)]; done) | (rw [if_neg (by omega), if_neg (by omega), if_pos (by omega)]; done) | (rw [if_neg (by omega), if_neg (by omega), if_neg (by omega)]; done)
        · refine jj_iload_n h d_M_hex_46 rfl ?_
          refine jj_bipush h d_M_hex_47 (by decide) ?_
          refine jj_isub h d_M_hex_49 ?_
          refine jj_goto h 54 d_M_hex_50 (by decide) ?_
          refine jj_iret h he d_M_hex_54 ?_
          refine ⟨?_, rfl⟩
          congr 2
          unfold hx_
          first | (rw [if_pos (by omega)]; done) | (rw [if_neg (by omega), if_pos (by omega)]; done) | (rw [if_neg (by omega), if_neg (by omega), if_pos (by omega)]; done) | (rw [if_neg (by omega), if_neg (by omega), if_neg (by omega)]; done)
    · refine jj_iload_n h d_M_hex_23 rfl ?_
      refine jj_bipush h d_M_hex_24 (by decide) ?_
      refine jj_icmp_gt h 34 d_M_hex_26 (by decide) ⟨by omega, by omega⟩ ⟨by omega, by omega⟩ (fun q26 => ?_) (fun q26 => ?_)
      · refine jj_iload_n h d_M_hex_34 rfl ?_
        refine jj_bipush h d_M_hex_35 (by decide) ?_
        refine jj_icmp_lt h 53 d_M_hex_37 (by decide) ⟨by omega, by omega⟩ ⟨by omega, by omega⟩ (fun q37 => ?_) (fun q37 => ?_)
        · refine jj_iconst h d_M_hex_53 ?_
          refine jj_iret h he d_M_hex_54 ?_
          refine ⟨?_, rfl⟩
          congr 2
          unfold hx_
          first | (rw [if_pos (by omega)]; done) | (rw [if_neg (by omega), if_pos (by omega)]; done) | (rw [if_neg (by omega), if_neg (by omega), if_pos (by omega)]; done) | (rw [if_neg (by omega), if_neg (by omega), if_neg (by omega)]; done)
        · refine jj_iload_n h d_M_hex_40 rfl ?_
          refine jj_bipush h d_M_hex_41 (by decide) ?_
          refine jj_icmp_gt h 53 d_M_hex_43 (by decide) ⟨by omega, by omega⟩ ⟨by omega, by omega⟩ (fun q43 => ?_) (fun q43 => ?_)
          · refine jj_iconst h d_M_hex_53 ?_
            refine jj_iret h he d_M_hex_54 ?_
            refine ⟨?_, rfl⟩
            congr 2
            unfold hx_
            first | (rw [if_pos (by omega)]; done) | (rw [if_neg (by omega), if_pos (by omega)]; done) | (rw [if_neg (by omega), if_neg (by omega), if_pos (by omega)]; done) | (rw [if_neg (by omega), if_neg (by omega), if_neg (by omega)]; done)
          · refine jj_iload_n h d_M_hex_46 rfl ?_
            refine jj_bipush h d_M_hex_47 (by decide) ?_
            refine jj_isub h d_M_hex_49 ?_
            refine jj_goto h 54 d_M_hex_50 (by decide) ?_
            refine jj_iret h he d_M_hex_54 ?_
            refine ⟨?_, rfl⟩
            congr 2
            unfold hx_
            first | (rw [if_pos (by omega)]; done) | (rw [if_neg (by omega), if_pos (by omega)]; done) | (rw [if_neg (by omega), if_neg (by omega), if_pos (by omega)]; done) | (rw [if_neg (by omega), if_neg (by omega), if_neg (by omega)]; done)
      · refine jj_iload_n h d_M_hex_29 rfl ?_
        refine jj_bipush h d_M_hex_30 (by decide) ?_
        refine jj_isub h d_M_hex_32 ?_
        refine jj_iret h he d_M_hex_33 ?_
        refine ⟨?_, rfl⟩
        congr 2
        unfold hx_
        first | (rw [if_pos (by omega)]; done) | (rw [if_neg (by omega), if_pos (by omega)]; done) | (rw [if_neg (by omega), if_neg (by omega), if_pos (by omega)]; done) | (rw [if_neg (by omega), if_neg (by omega), if_neg (by omega)]; done)
  · refine jj_iload_n h d_M_hex_6 rfl ?_
    refine jj_bipush h d_M_hex_7 (by decide) ?_
    refine jj_icmp_gt h 17 d_M_hex_9 (by decide) ⟨by omega, by omega⟩ ⟨by omega, by omega⟩ (fun q9 => ?_) (fun q9 => ?_)
    · refine jj_iload_n h d_M_hex_17 rfl ?_
      refine jj_bipush h d_M_hex_18 (by decide) ?_
      refine jj_icmp_lt h 34 d_M_hex_20 (by decide) ⟨by omega, by omega⟩ ⟨by omega, by omega⟩ (fun q20 => ?_) (fun q20 => ?_)
      · refine jj_iload_n h d_M_hex_34 rfl ?_
        refine jj_bipush h d_M_hex_35 (by decide) ?_
        refine jj_icmp_lt h 53 d_M_hex_37 (by decide) ⟨by omega, by omega⟩ ⟨by omega, by omega⟩ (fun q37 => ?_) (fun q37 => ?_)
        · refine jj_iconst h d_M_hex_53 ?_
          refine jj_iret h he d_M_hex_54 ?_
          refine ⟨?_, rfl⟩
          congr 2
          unfold hx_
          first | (rw [if_pos (by omega)]; done) | (rw [if_neg (by omega), if_pos (by omega)]; done) | (rw [if_neg (by omega), if_neg (by omega), if_pos (by omega)]; done) | (rw [if_neg (by omega), if_neg (by omega), if_neg (by omega)]; done)
        · refine jj_iload_n h d_M_hex_40 rfl ?_
          refine jj_bipush h d_M_hex_41 (by decide) ?_
          refine jj_icmp_gt h 53 d_M_hex_43 (by decide) ⟨by omega, by omega⟩ ⟨by omega, by omega⟩ (fun q43 => ?_) (fun q43 => ?_)
          · refine jj_iconst h d_M_hex_53 ?_
            refine jj_iret h he d_M_hex_54 ?_
            refine ⟨?_, rfl⟩
            congr 2
            unfold hx_
            first | (rw [if_pos (by omega)]; done) | (rw [if_neg (by omega), if_pos (by omega)]; done) | (rw [if_neg (by omega), if_neg (by omega), if_pos (by omega)]; done) | (rw [if_neg (by omega), if_neg (by omega), if_neg (by omega)]; done)
          · refine jj_iload_n h d_M_hex_46 rfl ?_
            refine jj_bipush h d_M_hex_47 (by decide) ?_
            refine jj_isub h d_M_hex_49 ?_
            refine jj_goto h 54 d_M_hex_50 (by decide) ?_
            refine jj_iret h he d_M_hex_54 ?_
            refine ⟨?_, rfl⟩
            congr 2
            unfold hx_
            first | (rw [if_pos (by omega)]; done) | (rw [if_neg (by omega), if_pos (by omega)]; done) | (rw [if_neg (by omega), if_neg (by omega), if_pos (by omega)]; done) | (rw [if_neg (by omega), if_neg (by omega), if_neg (by omega)]; done)
      · refine jj_iload_n h d_M_hex_23 rfl ?_
        refine jj_bipush h d_M_hex_24 (by decide) ?_
        refine jj_icmp_gt h 34 d_M_hex_26 (by decide) ⟨by omega, by omega⟩ ⟨by omega, by omega⟩ (fun q26 => ?_) (fun q26 => ?_)
        · refine jj_iload_n h d_M_hex_34 rfl ?_
          refine jj_bipush h d_M_hex_35 (by decide) ?_
          refine jj_icmp_lt h 53 d_M_hex_37 (by decide) ⟨by omega, by omega⟩ ⟨by omega, by omega⟩ (fun q37 => ?_) (fun q37 => ?_)
          · refine jj_iconst h d_M_hex_53 ?_
            refine jj_iret h he d_M_hex_54 ?_
            refine ⟨?_, rfl⟩
            congr 2
            unfold hx_
            first | (rw [if_pos (by omega)]; done) | (rw [if_neg (by omega), if_pos (by omega)]; done) | (rw [if_neg (by omega), if_neg (by omega), if_pos (by omega)]; done) | (rw [if_neg (by omega), if_neg (by omega), if_neg (by omega)]; done)
          · refine jj_iload_n h d_M_hex_40 rfl ?_
            refine jj_bipush h d_M_hex_41 (by decide) ?_
            refine jj_icmp_gt h 53 d_M_hex_43 (by decide) ⟨by omega, by omega⟩ ⟨by omega, by omega⟩ (fun q43 => ?_) (fun q43 => ?_)
            · refine jj_iconst h d_M_hex_53 ?_
              refine jj_iret h he d_M_hex_54 ?_
              refine ⟨?_, rfl⟩
              congr 2
              unfold hx_
              first | (rw [if_pos (by omega)]; done) | (rw [if_neg (by omega), if_pos (by omega)]; done) | (rw [if_neg (by omega), if_neg (by omega), if_pos (by omega)]; done) | (rw [if_neg (by omega), if_neg (by omega), if_neg (by omega)]; done)
            · refine jj_iload_n h d_M_hex_46 rfl ?_
              refine jj_bipush h d_M_hex_47 (by decide) ?_
              refine jj_isub h d_M_hex_49 ?_
              refine jj_goto h 54 d_M_hex_50 (by decide) ?_
              refine jj_iret h he d_M_hex_54 ?_
              refine ⟨?_, rfl⟩
              congr 2
              unfold hx_
              first | (rw [if_pos (by omega)]; done) | (rw [if_neg (by omega), if_pos (by omega)]; done) | (rw [if_neg (by omega), if_neg (by omega), if_pos (by omega)]; done) | (rw [if_neg (by omega), if_neg (by omega), if_neg (by omega)]; done)
        · refine jj_iload_n h d_M_hex_29 rfl ?_
          refine jj_bipush h d_M_hex_30 (by decide) ?_
          refine jj_isub h d_M_hex_32 ?_
          refine jj_iret h he d_M_hex_33 ?_
          refine ⟨?_, rfl⟩
          congr 2
          unfold hx_
          first | (rw [if_pos (by omega)]; done) | (rw [if_neg (by omega), if_pos (by omega)]; done) | (rw [if_neg (by omega), if_neg (by omega), if_pos (by omega)]; done) | (rw [if_neg (by omega), if_neg (by omega), if_neg (by omega)]; done)
    · refine jj_iload_n h d_M_hex_12 rfl ?_
      refine jj_bipush h d_M_hex_13 (by decide) ?_
      refine jj_isub h d_M_hex_15 ?_
      refine jj_iret h he d_M_hex_16 ?_
      refine ⟨?_, rfl⟩
      congr 2
      unfold hx_
      first | (rw [if_pos (by omega)]; done) | (rw [if_neg (by omega), if_pos (by omega)]; done) | (rw [if_neg (by omega), if_neg (by omega), if_pos (by omega)]; done) | (rw [if_neg (by omega), if_neg (by omega), if_neg (by omega)]; done)
/-- behind the blanks -/
def bb_ : List Int → List Int
  | [] => []
  | c :: t => if bl_ c then bb_ t else c :: t
/-- how many bytes the line's end that stands here has -/
def lb_ : List Int → Int
  | [] => 0
  | [c] => if c = 10 then 1 else 0
  | c :: d :: _ => if c = 10 then 1 else if c = 13 ∧ d = 10 then 2 else 0
theorem bb_suf : ∀ L : List Int, bb_ L <:+ L
  | [] => List.suffix_refl _
  | c :: t => by
    unfold bb_
    split
    · exact (bb_suf t).trans (List.suffix_cons c t)
    · exact List.suffix_refl _
/-- two digits behind "=" -/
def hp_ : List Int → Option Int
  | a :: b :: _ => if 0 ≤ hx_ a ∧ 0 ≤ hx_ b then some (16 * hx_ a + hx_ b) else none
  | _ => none
def qpd : Nat → List Int → List Int
  | 0, _ => []
  | _ + 1, [] => []
  | n + 1, c :: t =>
    if c = 61 then
      (match hp_ t with
        | some b => b :: qpd n (t.drop 2)
        | none => if 0 < lb_ (bb_ t) then qpd n ((bb_ t).drop (lb_ (bb_ t)).toNat) else 61 :: qpd n t)
    else if bl_ c ∧ (0 < lb_ (bb_ (c :: t)) ∨ bb_ (c :: t) = []) then qpd n (bb_ (c :: t)) else c :: qpd n t
def qp_ (L : List Int) : List Int := qpd L.length L
theorem cM_behindBlanks {G : mt_G} {l : Launch} {mem : mt_M} {p e : Int} (h0 : 0 ≤ p) (h1 : p ≤ e) (h2 : e ≤ 320) (hb : by_ (mem 184) p e) : CT G l y_M_behindBlanks c_M_behindBlanks 4 (some .int) 2 [vr G 182, vi p, vi e] mem (fun v m' => v = some (vi (e - (bb_ (slc (mem 184) p e)).length)) ∧ mem = m') := by
  refine CT.intro (by decide) rfl (Nat.le_of_ble_eq_true rfl) (fun X h he => ?_)
  have loop : ∀ (n : Nat) (q : Int), (e - q).toNat = n → p ≤ q → q ≤ e → bb_ (slc (mem 184) p e) = bb_ (slc (mem 184) q e) → JJ G X 0 0 mem 2 [some (vr G 182), some (vi p), some (vi e), some (vi q)] [] := by
    intro n
    induction n with
    | zero =>
      intro q hn hp hq hc
      refine jj_iload_n h d_M_behindBlanks_2 rfl ?_
      refine jj_iload_n h d_M_behindBlanks_3 rfl ?_
      refine jj_icmp_ge h 25 d_M_behindBlanks_4 (by decide) ⟨by omega, by omega⟩ ⟨by omega, by omega⟩ (fun _ => ?_) (fun q4 => absurd (by omega) q4)
      refine jj_iload_n h d_M_behindBlanks_25 rfl ?_
      refine jj_iret h he d_M_behindBlanks_26 ?_
      exact ⟨by rw [hc, slc_nil (by omega)]; simp only [bb_, List.length_nil]; congr 2; omega, rfl⟩
    | succ n ih =>
      intro q hn hp hq hc
      have hq3 := hb q hp (by omega)
      have hsc : slc (mem 184) q e = mem 184 q :: slc (mem 184) (q + 1) e := slc_cons (by omega)
      refine jj_iload_n h d_M_behindBlanks_2 rfl ?_
      refine jj_iload_n h d_M_behindBlanks_3 rfl ?_
      refine jj_icmp_ge h 25 d_M_behindBlanks_4 (by decide) ⟨by omega, by omega⟩ ⟨by omega, by omega⟩ (fun q4 => absurd q4 (by omega)) (fun _ => ?_)
      refine jj_aload_n h d_M_behindBlanks_7 rfl ⟨_, rfl⟩ ?_
      refine jj_g_M_src h  fl_M_13 d_M_behindBlanks_8 ?_
      refine jj_iload_n h d_M_behindBlanks_11 rfl ?_
      refine jj_iaload (N := 320) h (by decide) rfl (by decide) (by omega) (by omega) d_M_behindBlanks_12 ?_
      refine jj_callS h (cM_isBlank ⟨by omega, by omega⟩) cv_M_62 (ro_of he (by decide) (by decide)) rfl rfl rfl (Nat.le_of_ble_eq_true rfl) d_M_behindBlanks_13 (fun v m13 hv => ?_)
      obtain ⟨rfl, rfl⟩ := hv
      refine jj_if_eq h 25 d_M_behindBlanks_16 (by decide) ⟨by split <;> omega, by split <;> omega⟩ (fun q16 => ?_) (fun q16 => ?_)
      · have q16 : ¬ bl_ (mem 184 q) := fun z => by rw [if_pos z] at q16; omega
        refine jj_iload_n h d_M_behindBlanks_25 rfl ?_
        refine jj_iret h he d_M_behindBlanks_26 ?_
        exact ⟨by rw [hc, hsc, bb_, if_neg q16, ← hsc, slc_len]; congr 2; omega, rfl⟩
      · have q16 : bl_ (mem 184 q) := Decidable.byContradiction fun z => q16 (by rw [if_neg z])
        refine jj_iinc h d_M_behindBlanks_19 rfl rfl ?_
        refine jj_goto h 2 d_M_behindBlanks_22 (by decide) ?_
        exact ih (q + 1) (by omega) (by omega) (by omega) (by rw [hc, hsc, bb_, if_pos q16])
  refine jj_iload_n h d_M_behindBlanks_0 rfl ?_
  refine jj_istore_n h d_M_behindBlanks_1 (Nat.le_of_ble_eq_true rfl) rfl ?_
  exact loop _ p rfl (by omega) h1 rfl
theorem lb_2 (c d : Int) (t : List Int) : lb_ (c :: d :: t) = if c = 10 then 1 else if c = 13 ∧ d = 10 then 2 else 0 := rfl
theorem lb_1 (c : Int) : lb_ [c] = if c = 10 then 1 else 0 := rfl
theorem cM_lineBreak {G : mt_G} {l : Launch} {mem : mt_M} {p e : Int} (h0 : 0 ≤ p) (h1 : p ≤ e) (h2 : e ≤ 320) (hb : by_ (mem 184) p e) : CT G l y_M_lineBreak c_M_lineBreak 3 (some .int) 1 [vr G 182, vi p, vi e] mem (fun v m' => v = some (vi (lb_ (slc (mem 184) p e))) ∧ mem = m') := by
  refine CT.intro (by decide) rfl (Nat.le_of_ble_eq_true rfl) (fun X h he => ?_)
  by_cases hpe : p < e
  · have hq3 := hb p (by omega) (by omega)
    rw [slc_cons hpe] at he
    by_cases hpe2 : p + 1 < e
    · have hq4 := hb (p + 1) (by omega) (by omega)
      rw [slc_cons hpe2, lb_2] at he
      refine jj_iload_n h d_M_lineBreak_0 rfl ?_
      refine jj_iload_n h d_M_lineBreak_1 rfl ?_
      refine jj_icmp_ge h 18 d_M_lineBreak_2 (by decide) ⟨by omega, by omega⟩ ⟨by omega, by omega⟩ (fun q2 => absurd q2 (by omega)) (fun _ => ?_)
      refine jj_aload_n h d_M_lineBreak_5 rfl ⟨_, rfl⟩ ?_
      refine jj_g_M_src h  fl_M_13 d_M_lineBreak_6 ?_
      refine jj_iload_n h d_M_lineBreak_9 rfl ?_
      refine jj_iaload (N := 320) h (by decide) rfl (by decide) (by omega) (by omega) d_M_lineBreak_10 ?_
      refine jj_bipush h d_M_lineBreak_11 (by decide) ?_
      refine jj_icmp_ne h 18 d_M_lineBreak_13 (by decide) ⟨by omega, by omega⟩ ⟨by omega, by omega⟩ (fun q13 => ?_) (fun q13 => ?_)
      · refine jj_iload_n h d_M_lineBreak_18 rfl ?_
        refine jj_iconst h d_M_lineBreak_19 ?_
        refine jj_iadd h d_M_lineBreak_20 ?_
        refine jj_iload_n h d_M_lineBreak_21 rfl ?_
        refine jj_icmp_ge h 53 d_M_lineBreak_22 (by decide) ⟨by omega, by omega⟩ ⟨by omega, by omega⟩ (fun q22 => absurd q22 (by omega)) (fun _ => ?_)
        refine jj_aload_n h d_M_lineBreak_25 rfl ⟨_, rfl⟩ ?_
        refine jj_g_M_src h  fl_M_13 d_M_lineBreak_26 ?_
        refine jj_iload_n h d_M_lineBreak_29 rfl ?_
        refine jj_iaload (N := 320) h (by decide) rfl (by decide) (by omega) (by omega) d_M_lineBreak_30 ?_
        refine jj_bipush h d_M_lineBreak_31 (by decide) ?_
        refine jj_icmp_ne h 53 d_M_lineBreak_33 (by decide) ⟨by omega, by omega⟩ ⟨by omega, by omega⟩ (fun q33 => ?_) (fun q33 => ?_)
        · refine jj_iconst h d_M_lineBreak_53 ?_
          refine jj_iret h he d_M_lineBreak_54 ?_
          first | exact ⟨by rw [if_pos (by omega)], rfl⟩ | exact ⟨by rw [if_neg (by omega), if_pos (by omega)], rfl⟩ | exact ⟨by rw [if_neg (by omega), if_neg (by omega)], rfl⟩
        · refine jj_aload_n h d_M_lineBreak_36 rfl ⟨_, rfl⟩ ?_
          refine jj_g_M_src h  fl_M_13 d_M_lineBreak_37 ?_
          refine jj_iload_n h d_M_lineBreak_40 rfl ?_
          refine jj_iconst h d_M_lineBreak_41 ?_
          refine jj_iadd h d_M_lineBreak_42 ?_
          refine jj_iaload (N := 320) h (by decide) rfl (by decide) (by omega) (by omega) d_M_lineBreak_43 ?_
          refine jj_bipush h d_M_lineBreak_44 (by decide) ?_
          refine jj_icmp_ne h 53 d_M_lineBreak_46 (by decide) ⟨by omega, by omega⟩ ⟨by omega, by omega⟩ (fun q46 => ?_) (fun q46 => ?_)
          · refine jj_iconst h d_M_lineBreak_53 ?_
            refine jj_iret h he d_M_lineBreak_54 ?_
            first | exact ⟨by rw [if_pos (by omega)], rfl⟩ | exact ⟨by rw [if_neg (by omega), if_pos (by omega)], rfl⟩ | exact ⟨by rw [if_neg (by omega), if_neg (by omega)], rfl⟩
          · refine jj_iconst h d_M_lineBreak_49 ?_
            refine jj_goto h 54 d_M_lineBreak_50 (by decide) ?_
            refine jj_iret h he d_M_lineBreak_54 ?_
            first | exact ⟨by rw [if_pos (by omega)], rfl⟩ | exact ⟨by rw [if_neg (by omega), if_pos (by omega)], rfl⟩ | exact ⟨by rw [if_neg (by omega), if_neg (by omega)], rfl⟩
      · refine jj_iconst h d_M_lineBreak_16 ?_
        refine jj_iret h he d_M_lineBreak_17 ?_
        first | exact ⟨by rw [if_pos (by omega)], rfl⟩ | exact ⟨by rw [if_neg (by omega), if_pos (by omega)], rfl⟩ | exact ⟨by rw [if_neg (by omega), if_neg (by omega)], rfl⟩
    · rw [slc_nil (by omega), lb_1] at he
      refine jj_iload_n h d_M_lineBreak_0 rfl ?_
      refine jj_iload_n h d_M_lineBreak_1 rfl ?_
      refine jj_icmp_ge h 18 d_M_lineBreak_2 (by decide) ⟨by omega, by omega⟩ ⟨by omega, by omega⟩ (fun q2 => absurd q2 (by omega)) (fun _ => ?_)
      refine jj_aload_n h d_M_lineBreak_5 rfl ⟨_, rfl⟩ ?_
      refine jj_g_M_src h  fl_M_13 d_M_lineBreak_6 ?_
      refine jj_iload_n h d_M_lineBreak_9 rfl ?_
      refine jj_iaload (N := 320) h (by decide) rfl (by decide) (by omega) (by omega) d_M_lineBreak_10 ?_
      refine jj_bipush h d_M_lineBreak_11 (by decide) ?_
      refine jj_icmp_ne h 18 d_M_lineBreak_13 (by decide) ⟨by omega, by omega⟩ ⟨by omega, by omega⟩ (fun q13 => ?_) (fun q13 => ?_)
      · refine jj_iload_n h d_M_lineBreak_18 rfl ?_
        refine jj_iconst h d_M_lineBreak_19 ?_
        refine jj_iadd h d_M_lineBreak_20 ?_
        refine jj_iload_n h d_M_lineBreak_21 rfl ?_
        refine jj_icmp_ge h 53 d_M_lineBreak_22 (by decide) ⟨by omega, by omega⟩ ⟨by omega, by omega⟩ (fun _ => ?_) (fun q22 => absurd (by omega) q22)
        refine jj_iconst h d_M_lineBreak_53 ?_
        refine jj_iret h he d_M_lineBreak_54 ?_
        first | exact ⟨by rw [if_pos (by omega)], rfl⟩ | exact ⟨by rw [if_neg (by omega)], rfl⟩
      · refine jj_iconst h d_M_lineBreak_16 ?_
        refine jj_iret h he d_M_lineBreak_17 ?_
        first | exact ⟨by rw [if_pos (by omega)], rfl⟩ | exact ⟨by rw [if_neg (by omega)], rfl⟩
  · rw [slc_nil (by omega)] at he
    refine jj_iload_n h d_M_lineBreak_0 rfl ?_
    refine jj_iload_n h d_M_lineBreak_1 rfl ?_
    refine jj_icmp_ge h 18 d_M_lineBreak_2 (by decide) ⟨by omega, by omega⟩ ⟨by omega, by omega⟩ (fun _ => ?_) (fun q2 => absurd (by omega) q2)
    refine jj_iload_n h d_M_lineBreak_18 rfl ?_
    refine jj_iconst h d_M_lineBreak_19 ?_
    refine jj_iadd h d_M_lineBreak_20 ?_
    refine jj_iload_n h d_M_lineBreak_21 rfl ?_
    refine jj_icmp_ge h 53 d_M_lineBreak_22 (by decide) ⟨by omega, by omega⟩ ⟨by omega, by omega⟩ (fun _ => ?_) (fun q22 => absurd (by omega) q22)
    refine jj_iconst h d_M_lineBreak_53 ?_
    refine jj_iret h he d_M_lineBreak_54 ?_
    exact ⟨rfl, rfl⟩
theorem lb_b : ∀ L : List Int, 0 ≤ lb_ L ∧ lb_ L ≤ L.length ∧ lb_ L ≤ 2
  | [] => by simp [lb_]
  | [c] => by rw [lb_1]; simp only [List.length_cons, List.length_nil]; split <;> omega
  | c :: d :: t => by rw [lb_2]; simp only [List.length_cons]; split; omega; split <;> omega
theorem bb_blk {c : Int} (t : List Int) (h : bl_ c) : bb_ (c :: t) = bb_ t := by rw [bb_, if_pos h]
theorem slc_drop {f : Int → Int} {p e k : Int} (h0 : 0 ≤ k) (h1 : p + k ≤ e) : (slc f p e).drop k.toNat = slc f (p + k) e := by
  rw [slc_app (show p ≤ p + k by omega) h1, List.drop_append_of_le_length (by rw [slc_len]; omega), List.drop_eq_nil_of_le (by rw [slc_len]; omega)]
  rfl
theorem cM_fromQuoted {G : mt_G} {l : Launch} {mem : mt_M} {p e : Int} (h0 : 0 ≤ p) (h1 : p ≤ e) (h2 : e ≤ 320) (hb : by_ (mem 184) p e) (hT : 0 ≤ mem 182 9) (hro : mem 182 9 + (e - p) ≤ 1400) : CT G l y_M_fromQuoted c_M_fromQuoted 7 none 3 [vr G 182, vi p, vi e] mem (fun v m' => v = none ∧ ap_ mem (qp_ (slc (mem 184) p e)) m' ∧ m' 182 9 ≤ mem 182 9 + (e - p)) := by
  refine CT.intro (by decide) rfl (Nat.le_of_ble_eq_true rfl) (fun X h he => ?_)
  generalize hD : qp_ (slc (mem 184) p e) = D at *
  have loop : ∀ (n : Nat) (q : Int) (m : mt_M) (out : List Int) (k : Nat) (x y z : Option Value), (e - q).toNat = n → p ≤ q → q ≤ e → (slc (mem 184) q e).length ≤ k → ap_ mem out m → D = out ++ qpd k (slc (mem 184) q e) → (out.length : Int) ≤ q - p → JJ G X 0 0 m 2 [some (vr G 182), some (vi p), some (vi e), some (vi q), x, y, z] [] := by
    intro n
    induction n using Nat.strongRecOn with
    | ind n ih =>
      intro q m out k x y z hn hp hq hk ha hDe ho
      have hs : m 184 = mem 184 := ha.row (by decide) (by decide)
      have ha1 := ha.1
      by_cases hqe : q < e
      · have hq3 := hb q hp (by omega)
        have hsc : slc (mem 184) q e = mem 184 q :: slc (mem 184) (q + 1) e := slc_cons (by omega)
        have hbm : by_ (m 184) p e := by rw [hs]; exact hb
        rw [slc_len] at hk
        obtain ⟨k, rfl⟩ : ∃ k', k = k' + 1 := ⟨k - 1, by omega⟩
        rw [hsc, qpd] at hDe
        by_cases c61 : mem 184 q = 61
        · rw [if_pos c61] at hDe
          have hz := slc_suf (f := mem 184) (a := q + 1) (s := e) (by omega) (bb_suf (slc (mem 184) (q + 1) e))
          have hlb := lb_b (bb_ (slc (mem 184) (q + 1) e))
          generalize hB : bb_ (slc (mem 184) (q + 1) e) = B at *
          refine jj_iload_n h d_M_fromQuoted_2 rfl ?_
          refine jj_iload_n h d_M_fromQuoted_3 rfl ?_
          refine jj_icmp_ge h 181 d_M_fromQuoted_4 (by decide) ⟨by omega, by omega⟩ ⟨by omega, by omega⟩ (fun q4 => absurd q4 (by omega)) (fun _ => ?_)
          refine jj_aload_n h d_M_fromQuoted_7 rfl ⟨_, rfl⟩ ?_
          refine jj_g_M_src h  fl_M_13 d_M_fromQuoted_8 ?_
          try simp only [hs]
          refine jj_iload_n h d_M_fromQuoted_11 rfl ?_
          refine jj_iaload (N := 320) h (by decide) rfl (by decide) (by omega) (by omega) d_M_fromQuoted_12 ?_
          rw [hs, c61]
          refine jj_istore h d_M_fromQuoted_13 (Nat.le_of_ble_eq_true rfl) rfl ?_
          refine jj_aload_n h d_M_fromQuoted_15 rfl ⟨_, rfl⟩ ?_
          refine jj_iload h d_M_fromQuoted_16 rfl ?_
          refine jj_bipush h d_M_fromQuoted_18 (by decide) ?_
          refine jj_icmp_ne h 29 d_M_fromQuoted_20 (by decide) ⟨by omega, by omega⟩ ⟨by omega, by omega⟩ (fun q20 => absurd ((by decide)) q20) (fun _ => ?_)
          refine jj_iload_n h d_M_fromQuoted_23 rfl ?_
          refine jj_iconst h d_M_fromQuoted_24 ?_
          refine jj_iadd h d_M_fromQuoted_25 ?_
          refine jj_goto h 30 d_M_fromQuoted_26 (by decide) ?_
          refine jj_iload_n h d_M_fromQuoted_30 rfl ?_
          refine jj_callV h (cM_behindBlanks (p := q + 1) (by omega) (by omega) h2 (hbm.sub (by omega) (by omega))) cv_M_181 (ro_of he (by decide) (by decide)) rfl rfl (by decide) rfl rfl rfl (Nat.le_of_ble_eq_true rfl) d_M_fromQuoted_31 (fun v m31 hv => ?_)
          obtain ⟨rfl, rfl⟩ := hv
          rw [hs, hB]
          refine jj_istore h d_M_fromQuoted_34 (Nat.le_of_ble_eq_true rfl) rfl ?_
          refine jj_aload_n h d_M_fromQuoted_36 rfl ⟨_, rfl⟩ ?_
          refine jj_iload h d_M_fromQuoted_37 rfl ?_
          refine jj_iload_n h d_M_fromQuoted_39 rfl ?_
          refine jj_callV h (cM_lineBreak (by omega) (by omega) h2 (hbm.sub (by omega) (by omega))) cv_M_184 (ro_of he (by decide) (by decide)) rfl rfl (by decide) rfl rfl rfl (Nat.le_of_ble_eq_true rfl) d_M_fromQuoted_40 (fun v m40 hv => ?_)
          obtain ⟨rfl, rfl⟩ := hv
          rw [hs, hz.1]
          refine jj_istore h d_M_fromQuoted_43 (Nat.le_of_ble_eq_true rfl) rfl ?_
          refine jj_iload h d_M_fromQuoted_45 rfl ?_
          refine jj_bipush h d_M_fromQuoted_47 (by decide) ?_
          refine jj_icmp_ne h 123 d_M_fromQuoted_49 (by decide) ⟨by omega, by omega⟩ ⟨by omega, by omega⟩ (fun q49 => absurd ((by decide)) q49) (fun _ => ?_)
          refine jj_iload_n h d_M_fromQuoted_52 rfl ?_
          refine jj_iconst h d_M_fromQuoted_53 ?_
          refine jj_iadd h d_M_fromQuoted_54 ?_
          refine jj_iload_n h d_M_fromQuoted_55 rfl ?_
          refine jj_icmp_ge h 123 d_M_fromQuoted_56 (by decide) ⟨by omega, by omega⟩ ⟨by omega, by omega⟩ (fun q56 => ?_) (fun q56 => ?_)
          · have hh : hp_ (slc (mem 184) (q + 1) e) = none := by
              by_cases g : q + 1 < e
              · rw [slc_cons g, slc_nil (by omega)]; rfl
              · rw [slc_nil (by omega)]; rfl
            rw [hh] at hDe
            dsimp only at hDe
            refine jj_iload h d_M_fromQuoted_123 rfl ?_
            refine jj_bipush h d_M_fromQuoted_125 (by decide) ?_
            refine jj_icmp_ne h 144 d_M_fromQuoted_127 (by decide) ⟨by omega, by omega⟩ ⟨by omega, by omega⟩ (fun q127 => absurd ((by decide)) q127) (fun _ => ?_)
            refine jj_iload h d_M_fromQuoted_130 rfl ?_
            refine jj_if_le h 144 d_M_fromQuoted_132 (by decide) ⟨by omega, by omega⟩ (fun q132 => ?_) (fun q132 => ?_)
            · rw [if_neg (by omega)] at hDe
              refine jj_iload h d_M_fromQuoted_144 rfl ?_
              refine jj_callS h (cM_isBlank ⟨by decide, by decide⟩) cv_M_62 (ro_of he (by decide) (by decide)) rfl rfl rfl (Nat.le_of_ble_eq_true rfl) d_M_fromQuoted_146 (fun v m146 hv => ?_)
              obtain ⟨rfl, rfl⟩ := hv
              refine jj_if_eq h 169 d_M_fromQuoted_149 (by decide) ⟨by decide, by decide⟩ (fun _ => ?_) (fun q149 => absurd (rfl) q149)
              refine jj_aload_n h d_M_fromQuoted_169 rfl ⟨_, rfl⟩ ?_
              refine jj_iload h d_M_fromQuoted_170 rfl ?_
              refine jj_callV h (cM_keep (by omega) (by omega)) cv_M_66 (ro_of he (by decide) (by decide)) rfl rfl (by decide) rfl rfl rfl (Nat.le_of_ble_eq_true rfl) d_M_fromQuoted_172 (fun v m172 hv => ?_)
              obtain ⟨rfl, rfl⟩ := hv
              refine jj_iinc h d_M_fromQuoted_175 rfl rfl ?_
              refine jj_goto h 2 d_M_fromQuoted_178 (by decide) ?_
              refine ih _ (by omega) (q + 1) _ (out ++ [61]) k _ _ _ rfl (by omega) (by omega) (by rw [slc_len]; omega) (ha.k1 _) (by rw [hDe, List.append_assoc]; rfl) ?_
              rw [List.length_append]; simp only [List.length_cons, List.length_nil]; omega
            · rw [if_pos (by omega)] at hDe
              refine jj_iload h d_M_fromQuoted_135 rfl ?_
              refine jj_iload h d_M_fromQuoted_137 rfl ?_
              refine jj_iadd h d_M_fromQuoted_139 ?_
              refine jj_istore_n h d_M_fromQuoted_140 (Nat.le_of_ble_eq_true rfl) rfl ?_
              refine jj_goto h 178 d_M_fromQuoted_141 (by decide) ?_
              refine jj_goto h 2 d_M_fromQuoted_178 (by decide) ?_
              have e9 := slc_drop (f := mem 184) (p := e - B.length) (e := e) (k := lb_ B) hlb.1 (by omega)
              rw [hz.1] at e9
              exact ih _ (by omega) (e - B.length + lb_ B) m out k _ _ _ rfl (by omega) (by omega) (by rw [slc_len]; omega) ha (by rw [hDe, e9]) (by omega)
          · have h4 := hb (q + 1) (by omega) (by omega)
            have h5 := hb (q + 2) (by omega) (by omega)
            have x4 := hx_b (mem 184 (q + 1))
            have x5 := hx_b (mem 184 (q + 2))
            have hs2 : slc (mem 184) (q + 1) e = mem 184 (q + 1) :: mem 184 (q + 2) :: slc (mem 184) (q + 1 + 2) e := by rw [slc_cons (by omega : q + 1 < e), show q + 1 + 1 = q + 2 by omega, slc_cons (by omega : q + 2 < e), show q + 2 + 1 = q + 1 + 2 by omega]
            have hh : hp_ (slc (mem 184) (q + 1) e) = if 0 ≤ hx_ (mem 184 (q + 1)) ∧ 0 ≤ hx_ (mem 184 (q + 2)) then some (16 * hx_ (mem 184 (q + 1)) + hx_ (mem 184 (q + 2))) else none := by rw [hs2]; rfl
            refine jj_aload_n h d_M_fromQuoted_59 rfl ⟨_, rfl⟩ ?_
            refine jj_g_M_src h  fl_M_13 d_M_fromQuoted_60 ?_
            try simp only [hs]
            refine jj_iload_n h d_M_fromQuoted_63 rfl ?_
            refine jj_iconst h d_M_fromQuoted_64 ?_
            refine jj_iadd h d_M_fromQuoted_65 ?_
            refine jj_iaload (N := 320) h (by decide) rfl (by decide) (by omega) (by omega) d_M_fromQuoted_66 ?_
            try simp only [hs]
            refine jj_callS h (cM_hex ⟨by omega, by omega⟩) cv_M_187 (ro_of he (by decide) (by decide)) rfl rfl rfl (Nat.le_of_ble_eq_true rfl) d_M_fromQuoted_67 (fun v m67 hv => ?_)
            obtain ⟨rfl, rfl⟩ := hv
            refine jj_if_lt h 123 d_M_fromQuoted_70 (by decide) ⟨by omega, by omega⟩ (fun q70 => ?_) (fun q70 => ?_)
            · rw [if_neg (by omega)] at hh
              rw [hh] at hDe
              dsimp only at hDe
              refine jj_iload h d_M_fromQuoted_123 rfl ?_
              refine jj_bipush h d_M_fromQuoted_125 (by decide) ?_
              refine jj_icmp_ne h 144 d_M_fromQuoted_127 (by decide) ⟨by omega, by omega⟩ ⟨by omega, by omega⟩ (fun q127 => absurd ((by decide)) q127) (fun _ => ?_)
              refine jj_iload h d_M_fromQuoted_130 rfl ?_
              refine jj_if_le h 144 d_M_fromQuoted_132 (by decide) ⟨by omega, by omega⟩ (fun q132 => ?_) (fun q132 => ?_)
              · rw [if_neg (by omega)] at hDe
                refine jj_iload h d_M_fromQuoted_144 rfl ?_
                refine jj_callS h (cM_isBlank ⟨by decide, by decide⟩) cv_M_62 (ro_of he (by decide) (by decide)) rfl rfl rfl (Nat.le_of_ble_eq_true rfl) d_M_fromQuoted_146 (fun v m146 hv => ?_)
                obtain ⟨rfl, rfl⟩ := hv
                refine jj_if_eq h 169 d_M_fromQuoted_149 (by decide) ⟨by decide, by decide⟩ (fun _ => ?_) (fun q149 => absurd (rfl) q149)
                refine jj_aload_n h d_M_fromQuoted_169 rfl ⟨_, rfl⟩ ?_
                refine jj_iload h d_M_fromQuoted_170 rfl ?_
                refine jj_callV h (cM_keep (by omega) (by omega)) cv_M_66 (ro_of he (by decide) (by decide)) rfl rfl (by decide) rfl rfl rfl (Nat.le_of_ble_eq_true rfl) d_M_fromQuoted_172 (fun v m172 hv => ?_)
                obtain ⟨rfl, rfl⟩ := hv
                refine jj_iinc h d_M_fromQuoted_175 rfl rfl ?_
                refine jj_goto h 2 d_M_fromQuoted_178 (by decide) ?_
                refine ih _ (by omega) (q + 1) _ (out ++ [61]) k _ _ _ rfl (by omega) (by omega) (by rw [slc_len]; omega) (ha.k1 _) (by rw [hDe, List.append_assoc]; rfl) ?_
                rw [List.length_append]; simp only [List.length_cons, List.length_nil]; omega
              · rw [if_pos (by omega)] at hDe
                refine jj_iload h d_M_fromQuoted_135 rfl ?_
                refine jj_iload h d_M_fromQuoted_137 rfl ?_
                refine jj_iadd h d_M_fromQuoted_139 ?_
                refine jj_istore_n h d_M_fromQuoted_140 (Nat.le_of_ble_eq_true rfl) rfl ?_
                refine jj_goto h 178 d_M_fromQuoted_141 (by decide) ?_
                refine jj_goto h 2 d_M_fromQuoted_178 (by decide) ?_
                have e9 := slc_drop (f := mem 184) (p := e - B.length) (e := e) (k := lb_ B) hlb.1 (by omega)
                rw [hz.1] at e9
                exact ih _ (by omega) (e - B.length + lb_ B) m out k _ _ _ rfl (by omega) (by omega) (by rw [slc_len]; omega) ha (by rw [hDe, e9]) (by omega)
            · refine jj_aload_n h d_M_fromQuoted_73 rfl ⟨_, rfl⟩ ?_
              refine jj_g_M_src h  fl_M_13 d_M_fromQuoted_74 ?_
              try simp only [hs]
              refine jj_iload_n h d_M_fromQuoted_77 rfl ?_
              refine jj_iconst h d_M_fromQuoted_78 ?_
              refine jj_iadd h d_M_fromQuoted_79 ?_
              refine jj_iaload (N := 320) h (by decide) rfl (by decide) (by omega) (by omega) d_M_fromQuoted_80 ?_
              try simp only [hs]
              refine jj_callS h (cM_hex ⟨by omega, by omega⟩) cv_M_187 (ro_of he (by decide) (by decide)) rfl rfl rfl (Nat.le_of_ble_eq_true rfl) d_M_fromQuoted_81 (fun v m81 hv => ?_)
              obtain ⟨rfl, rfl⟩ := hv
              refine jj_if_lt h 123 d_M_fromQuoted_84 (by decide) ⟨by omega, by omega⟩ (fun q84 => ?_) (fun q84 => ?_)
              · rw [if_neg (by omega)] at hh
                rw [hh] at hDe
                dsimp only at hDe
                refine jj_iload h d_M_fromQuoted_123 rfl ?_
                refine jj_bipush h d_M_fromQuoted_125 (by decide) ?_
                refine jj_icmp_ne h 144 d_M_fromQuoted_127 (by decide) ⟨by omega, by omega⟩ ⟨by omega, by omega⟩ (fun q127 => absurd ((by decide)) q127) (fun _ => ?_)
                refine jj_iload h d_M_fromQuoted_130 rfl ?_
                refine jj_if_le h 144 d_M_fromQuoted_132 (by decide) ⟨by omega, by omega⟩ (fun q132 => ?_) (fun q132 => ?_)
                · rw [if_neg (by omega)] at hDe
                  refine jj_iload h d_M_fromQuoted_144 rfl ?_
                  refine jj_callS h (cM_isBlank ⟨by decide, by decide⟩) cv_M_62 (ro_of he (by decide) (by decide)) rfl rfl rfl (Nat.le_of_ble_eq_true rfl) d_M_fromQuoted_146 (fun v m146 hv => ?_)
                  obtain ⟨rfl, rfl⟩ := hv
                  refine jj_if_eq h 169 d_M_fromQuoted_149 (by decide) ⟨by decide, by decide⟩ (fun _ => ?_) (fun q149 => absurd (rfl) q149)
                  refine jj_aload_n h d_M_fromQuoted_169 rfl ⟨_, rfl⟩ ?_
                  refine jj_iload h d_M_fromQuoted_170 rfl ?_
                  refine jj_callV h (cM_keep (by omega) (by omega)) cv_M_66 (ro_of he (by decide) (by decide)) rfl rfl (by decide) rfl rfl rfl (Nat.le_of_ble_eq_true rfl) d_M_fromQuoted_172 (fun v m172 hv => ?_)
                  obtain ⟨rfl, rfl⟩ := hv
                  refine jj_iinc h d_M_fromQuoted_175 rfl rfl ?_
                  refine jj_goto h 2 d_M_fromQuoted_178 (by decide) ?_
                  refine ih _ (by omega) (q + 1) _ (out ++ [61]) k _ _ _ rfl (by omega) (by omega) (by rw [slc_len]; omega) (ha.k1 _) (by rw [hDe, List.append_assoc]; rfl) ?_
                  rw [List.length_append]; simp only [List.length_cons, List.length_nil]; omega
                · rw [if_pos (by omega)] at hDe
                  refine jj_iload h d_M_fromQuoted_135 rfl ?_
                  refine jj_iload h d_M_fromQuoted_137 rfl ?_
                  refine jj_iadd h d_M_fromQuoted_139 ?_
                  refine jj_istore_n h d_M_fromQuoted_140 (Nat.le_of_ble_eq_true rfl) rfl ?_
                  refine jj_goto h 178 d_M_fromQuoted_141 (by decide) ?_
                  refine jj_goto h 2 d_M_fromQuoted_178 (by decide) ?_
                  have e9 := slc_drop (f := mem 184) (p := e - B.length) (e := e) (k := lb_ B) hlb.1 (by omega)
                  rw [hz.1] at e9
                  exact ih _ (by omega) (e - B.length + lb_ B) m out k _ _ _ rfl (by omega) (by omega) (by rw [slc_len]; omega) ha (by rw [hDe, e9]) (by omega)
              · rw [if_pos (by omega)] at hh
                rw [hh] at hDe
                refine jj_aload_n h d_M_fromQuoted_87 rfl ⟨_, rfl⟩ ?_
                refine jj_bipush h d_M_fromQuoted_88 (by decide) ?_
                refine jj_aload_n h d_M_fromQuoted_90 rfl ⟨_, rfl⟩ ?_
                refine jj_g_M_src h  fl_M_13 d_M_fromQuoted_91 ?_
                try simp only [hs]
                refine jj_iload_n h d_M_fromQuoted_94 rfl ?_
                refine jj_iconst h d_M_fromQuoted_95 ?_
                refine jj_iadd h d_M_fromQuoted_96 ?_
                refine jj_iaload (N := 320) h (by decide) rfl (by decide) (by omega) (by omega) d_M_fromQuoted_97 ?_
                try simp only [hs]
                refine jj_callS h (cM_hex ⟨by omega, by omega⟩) cv_M_187 (ro_of he (by decide) (by decide)) rfl rfl rfl (Nat.le_of_ble_eq_true rfl) d_M_fromQuoted_98 (fun v m98 hv => ?_)
                obtain ⟨rfl, rfl⟩ := hv
                refine jj_imul h d_M_fromQuoted_101 ?_
                refine jj_aload_n h d_M_fromQuoted_102 rfl ⟨_, rfl⟩ ?_
                refine jj_g_M_src h  fl_M_13 d_M_fromQuoted_103 ?_
                try simp only [hs]
                refine jj_iload_n h d_M_fromQuoted_106 rfl ?_
                refine jj_iconst h d_M_fromQuoted_107 ?_
                refine jj_iadd h d_M_fromQuoted_108 ?_
                refine jj_iaload (N := 320) h (by decide) rfl (by decide) (by omega) (by omega) d_M_fromQuoted_109 ?_
                try simp only [hs]
                refine jj_callS h (cM_hex ⟨by omega, by omega⟩) cv_M_187 (ro_of he (by decide) (by decide)) rfl rfl rfl (Nat.le_of_ble_eq_true rfl) d_M_fromQuoted_110 (fun v m110 hv => ?_)
                obtain ⟨rfl, rfl⟩ := hv
                refine jj_iadd h d_M_fromQuoted_113 ?_
                refine jj_callV h (cM_keep (by omega) (by omega)) cv_M_66 (ro_of he (by decide) (by decide)) rfl rfl (by decide) rfl rfl rfl (Nat.le_of_ble_eq_true rfl) d_M_fromQuoted_114 (fun v m114 hv => ?_)
                obtain ⟨rfl, rfl⟩ := hv
                refine jj_iinc h d_M_fromQuoted_117 rfl rfl ?_
                refine jj_goto h 178 d_M_fromQuoted_120 (by decide) ?_
                refine jj_goto h 2 d_M_fromQuoted_178 (by decide) ?_
                refine ih _ (by omega) (q + 3) _ (out ++ [16 * hx_ (mem 184 (q + 1)) + hx_ (mem 184 (q + 2))]) k _ _ _ rfl (by omega) (by omega) (by rw [slc_len]; omega) (ha.k1 _) ?_ ?_
                · rw [hDe, List.append_assoc]
                  congr 2
                  rw [show (2 : Nat) = ((2 : Int)).toNat from rfl, slc_drop (by omega) (by omega), show q + 1 + 2 = q + 3 by omega]
                  rfl
                · rw [List.length_append]; simp only [List.length_cons, List.length_nil]; omega
        · rw [if_neg c61] at hDe
          have hz := slc_suf (f := mem 184) (a := q) (s := e) (by omega) (bb_suf (slc (mem 184) q e))
          rw [hsc] at hz
          have hlb := lb_b (bb_ (mem 184 q :: slc (mem 184) (q + 1) e))
          have hbl : bl_ (mem 184 q) → (bb_ (mem 184 q :: slc (mem 184) (q + 1) e)).length ≤ (slc (mem 184) (q + 1) e).length := fun z => by rw [bb_blk _ z]; exact (bb_suf _).length_le
          rw [slc_len] at hbl
          generalize hB : bb_ (mem 184 q :: slc (mem 184) (q + 1) e) = B at *
          have hBn : B = [] ↔ e - (B.length : Int) = e := ⟨fun z => by rw [z]; simp, fun z => List.length_eq_zero_iff.mp (by omega)⟩
          refine jj_iload_n h d_M_fromQuoted_2 rfl ?_
          refine jj_iload_n h d_M_fromQuoted_3 rfl ?_
          refine jj_icmp_ge h 181 d_M_fromQuoted_4 (by decide) ⟨by omega, by omega⟩ ⟨by omega, by omega⟩ (fun q4 => absurd q4 (by omega)) (fun _ => ?_)
          refine jj_aload_n h d_M_fromQuoted_7 rfl ⟨_, rfl⟩ ?_
          refine jj_g_M_src h  fl_M_13 d_M_fromQuoted_8 ?_
          try simp only [hs]
          refine jj_iload_n h d_M_fromQuoted_11 rfl ?_
          refine jj_iaload (N := 320) h (by decide) rfl (by decide) (by omega) (by omega) d_M_fromQuoted_12 ?_
          try simp only [hs]
          refine jj_istore h d_M_fromQuoted_13 (Nat.le_of_ble_eq_true rfl) rfl ?_
          refine jj_aload_n h d_M_fromQuoted_15 rfl ⟨_, rfl⟩ ?_
          refine jj_iload h d_M_fromQuoted_16 rfl ?_
          refine jj_bipush h d_M_fromQuoted_18 (by decide) ?_
          refine jj_icmp_ne h 29 d_M_fromQuoted_20 (by decide) ⟨by omega, by omega⟩ ⟨by omega, by omega⟩ (fun _ => ?_) (fun q20 => absurd q20 (c61))
          refine jj_iload_n h d_M_fromQuoted_29 rfl ?_
          refine jj_iload_n h d_M_fromQuoted_30 rfl ?_
          refine jj_callV h (cM_behindBlanks (p := q) (by omega) (by omega) h2 (hbm.sub (by omega) (by omega))) cv_M_181 (ro_of he (by decide) (by decide)) rfl rfl (by decide) rfl rfl rfl (Nat.le_of_ble_eq_true rfl) d_M_fromQuoted_31 (fun v m31 hv => ?_)
          obtain ⟨rfl, rfl⟩ := hv
          rw [hs, hsc, hB]
          refine jj_istore h d_M_fromQuoted_34 (Nat.le_of_ble_eq_true rfl) rfl ?_
          refine jj_aload_n h d_M_fromQuoted_36 rfl ⟨_, rfl⟩ ?_
          refine jj_iload h d_M_fromQuoted_37 rfl ?_
          refine jj_iload_n h d_M_fromQuoted_39 rfl ?_
          refine jj_callV h (cM_lineBreak (by omega) (by omega) h2 (hbm.sub (by omega) (by omega))) cv_M_184 (ro_of he (by decide) (by decide)) rfl rfl (by decide) rfl rfl rfl (Nat.le_of_ble_eq_true rfl) d_M_fromQuoted_40 (fun v m40 hv => ?_)
          obtain ⟨rfl, rfl⟩ := hv
          rw [hs, hz.1]
          refine jj_istore h d_M_fromQuoted_43 (Nat.le_of_ble_eq_true rfl) rfl ?_
          refine jj_iload h d_M_fromQuoted_45 rfl ?_
          refine jj_bipush h d_M_fromQuoted_47 (by decide) ?_
          refine jj_icmp_ne h 123 d_M_fromQuoted_49 (by decide) ⟨by omega, by omega⟩ ⟨by omega, by omega⟩ (fun _ => ?_) (fun q49 => absurd q49 (c61))
          refine jj_iload h d_M_fromQuoted_123 rfl ?_
          refine jj_bipush h d_M_fromQuoted_125 (by decide) ?_
          refine jj_icmp_ne h 144 d_M_fromQuoted_127 (by decide) ⟨by omega, by omega⟩ ⟨by omega, by omega⟩ (fun _ => ?_) (fun q127 => absurd q127 (c61))
          refine jj_iload h d_M_fromQuoted_144 rfl ?_
          refine jj_callS h (cM_isBlank ⟨by omega, by omega⟩) cv_M_62 (ro_of he (by decide) (by decide)) rfl rfl rfl (Nat.le_of_ble_eq_true rfl) d_M_fromQuoted_146 (fun v m146 hv => ?_)
          obtain ⟨rfl, rfl⟩ := hv
          refine jj_if_eq h 169 d_M_fromQuoted_149 (by decide) ⟨by split <;> omega, by split <;> omega⟩ (fun q149 => ?_) (fun q149 => ?_)
          · have q149 : ¬ bl_ (mem 184 q) := fun z => by rw [if_pos z] at q149; omega
            rw [if_neg (fun z => q149 z.1)] at hDe
            refine jj_aload_n h d_M_fromQuoted_169 rfl ⟨_, rfl⟩ ?_
            refine jj_iload h d_M_fromQuoted_170 rfl ?_
            refine jj_callV h (cM_keep (by omega) (by omega)) cv_M_66 (ro_of he (by decide) (by decide)) rfl rfl (by decide) rfl rfl rfl (Nat.le_of_ble_eq_true rfl) d_M_fromQuoted_172 (fun v m172 hv => ?_)
            obtain ⟨rfl, rfl⟩ := hv
            refine jj_iinc h d_M_fromQuoted_175 rfl rfl ?_
            refine jj_goto h 2 d_M_fromQuoted_178 (by decide) ?_
            refine ih _ (by omega) (q + 1) _ (out ++ [mem 184 q]) k _ _ _ rfl (by omega) (by omega) (by rw [slc_len]; omega) (ha.k1 _) (by rw [hDe, List.append_assoc]; rfl) ?_
            rw [List.length_append]; simp only [List.length_cons, List.length_nil]; omega
          · have q149 : bl_ (mem 184 q) := Decidable.byContradiction fun z => q149 (by rw [if_neg z])
            have hbl := hbl q149
            refine jj_iload h d_M_fromQuoted_152 rfl ?_
            refine jj_if_gt h 163 d_M_fromQuoted_154 (by decide) ⟨by omega, by omega⟩ (fun q154 => ?_) (fun q154 => ?_)
            · rw [if_pos ⟨q149, Or.inl (by omega)⟩] at hDe
              refine jj_iload h d_M_fromQuoted_163 rfl ?_
              refine jj_istore_n h d_M_fromQuoted_165 (Nat.le_of_ble_eq_true rfl) rfl ?_
              refine jj_goto h 178 d_M_fromQuoted_166 (by decide) ?_
              refine jj_goto h 2 d_M_fromQuoted_178 (by decide) ?_
              exact ih _ (by omega) (e - B.length) m out k _ _ _ rfl (by omega) (by omega) (by rw [slc_len]; omega) ha (by rw [hDe, hz.1]) (by omega)
            · refine jj_iload h d_M_fromQuoted_157 rfl ?_
              refine jj_iload_n h d_M_fromQuoted_159 rfl ?_
              refine jj_icmp_ne h 169 d_M_fromQuoted_160 (by decide) ⟨by omega, by omega⟩ ⟨by omega, by omega⟩ (fun q160 => ?_) (fun q160 => ?_)
              · rw [if_neg (fun z => by rcases z.2 with z | z; omega; exact q160 (hBn.mp z))] at hDe
                refine jj_aload_n h d_M_fromQuoted_169 rfl ⟨_, rfl⟩ ?_
                refine jj_iload h d_M_fromQuoted_170 rfl ?_
                refine jj_callV h (cM_keep (by omega) (by omega)) cv_M_66 (ro_of he (by decide) (by decide)) rfl rfl (by decide) rfl rfl rfl (Nat.le_of_ble_eq_true rfl) d_M_fromQuoted_172 (fun v m172 hv => ?_)
                obtain ⟨rfl, rfl⟩ := hv
                refine jj_iinc h d_M_fromQuoted_175 rfl rfl ?_
                refine jj_goto h 2 d_M_fromQuoted_178 (by decide) ?_
                refine ih _ (by omega) (q + 1) _ (out ++ [mem 184 q]) k _ _ _ rfl (by omega) (by omega) (by rw [slc_len]; omega) (ha.k1 _) (by rw [hDe, List.append_assoc]; rfl) ?_
                rw [List.length_append]; simp only [List.length_cons, List.length_nil]; omega
              · rw [if_pos ⟨q149, Or.inr (hBn.mpr q160)⟩] at hDe
                refine jj_iload h d_M_fromQuoted_163 rfl ?_
                refine jj_istore_n h d_M_fromQuoted_165 (Nat.le_of_ble_eq_true rfl) rfl ?_
                refine jj_goto h 178 d_M_fromQuoted_166 (by decide) ?_
                refine jj_goto h 2 d_M_fromQuoted_178 (by decide) ?_
                exact ih _ (by omega) (e - B.length) m out k _ _ _ rfl (by omega) (by omega) (by rw [slc_len]; omega) ha (by rw [hDe, hz.1]) (by omega)
      · rw [slc_nil (by omega)] at hDe
        have e1 : qpd k [] = [] := by cases k <;> rfl
        rw [e1, List.append_nil] at hDe
        refine jj_iload_n h d_M_fromQuoted_2 rfl ?_
        refine jj_iload_n h d_M_fromQuoted_3 rfl ?_
        refine jj_icmp_ge h 181 d_M_fromQuoted_4 (by decide) ⟨by omega, by omega⟩ ⟨by omega, by omega⟩ (fun _ => ?_) (fun q4 => absurd (by omega) q4)
        refine jj_vret h he d_M_fromQuoted_181 ?_
        exact ⟨rfl, by rw [hDe]; exact ha, by omega⟩
  refine jj_iload_n h d_M_fromQuoted_0 rfl ?_
  refine jj_istore_n h d_M_fromQuoted_1 (Nat.le_of_ble_eq_true rfl) rfl ?_
  exact loop _ p mem [] _ _ _ _ rfl (by omega) h1 (Nat.le_refl _) ap_.rf (by rw [← hD]; rfl) (by simp)
