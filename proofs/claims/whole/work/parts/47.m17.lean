/-! The reference: delimiters and parts. -/
/-- behind the word w, if it stands here -/
def strp : List Int → List Int → Option (List Int)
  | [], L => some L
  | _ :: _, [] => none
  | b :: B, c :: L => if c = b then strp B L else none
def mr_ (r : List Int) : Int := match strp [45, 45] r with
  | some r2 => if bb_ r2 = [] then 2 else 0
  | none => if bb_ r = [] then 1 else 0
/-- 1: the text is a delimiter of the boundary B; 2: a closing one; 0: neither -/
def mk_ (B L : List Int) : Int := match strp (45 :: 45 :: B) L with
  | none => 0
  | some r => mr_ r
theorem strp_short : ∀ (B L : List Int), L.length < B.length → strp B L = none
  | [], L, h => by simp at h
  | b :: B, [], h => rfl
  | b :: B, c :: L, h => by
    rw [strp]
    split
    · exact strp_short B L (by simpa using h)
    · rfl
theorem cM_delimiter {G : mt_G} {l : Launch} {mem : mt_M} {e p s : Int} {B : List Int} (h0 : 0 ≤ e) (h1 : e < 16) (hB : mem 185 (16 * e + 12) = B.length) (ha : 0 ≤ mem 185 (16 * e + 11)) (hT : mem 185 (16 * e + 11) + B.length ≤ 1400) (hBt : slc (mem 187) (mem 185 (16 * e + 11)) (mem 185 (16 * e + 11) + B.length) = B) (hbt : by_ (mem 187) (mem 185 (16 * e + 11)) (mem 185 (16 * e + 11) + B.length)) (hp : 0 ≤ p) (hps : p ≤ s) (hs : s ≤ 320) (hb : by_ (mem 184) p s) : CT G l y_M_delimiter c_M_delimiter 7 (some .int) 2 [vr G 182, vi e, vi p, vi s] mem (fun v m' => v = some (vi (mk_ B (slc (mem 184) p s))) ∧ mem = m') := by
  refine CT.intro (by decide) rfl (Nat.le_of_ble_eq_true rfl) (fun X h he => ?_)
  generalize hA : mem 185 (16 * e + 11) = A at *
  generalize hn : (B.length : Int) = n at *
  have hn0 : 0 ≤ n := by omega
  generalize hK : mk_ B (slc (mem 184) p s) = K at *
  -- behind all: blanks up to the end
  have fin : ∀ (k : Nat) (q z : Int), (s - q).toNat = k → p ≤ q → q ≤ s → (z = 0 ∨ z = 1) → (K = if bb_ (slc (mem 184) q s) = [] then (if z = 1 then 2 else 1) else 0) → JJ G X 0 0 mem 149 [some (vr G 182), some (vi e), some (vi p), some (vi s), some (vi n), some (vi q), some (vi z)] [] := by
    intro k
    induction k with
    | zero =>
      intro q z k1 k2 k3 k4 k5
      rw [slc_nil (by omega), show bb_ [] = [] from rfl, if_pos rfl] at k5
      refine jj_iload h d_M_delimiter_149 rfl ?_
      refine jj_iload_n h d_M_delimiter_151 rfl ?_
      refine jj_icmp_ge h 174 d_M_delimiter_152 (by decide) ⟨by omega, by omega⟩ ⟨by omega, by omega⟩ (fun _ => ?_) (fun q152 => absurd (by omega) q152)
      refine jj_iload h d_M_delimiter_174 rfl ?_
      refine jj_iload_n h d_M_delimiter_176 rfl ?_
      refine jj_icmp_ge h 184 d_M_delimiter_177 (by decide) ⟨by omega, by omega⟩ ⟨by omega, by omega⟩ (fun _ => ?_) (fun q177 => absurd (by omega) q177)
      refine jj_iload h d_M_delimiter_184 rfl ?_
      refine jj_if_eq h 193 d_M_delimiter_186 (by decide) ⟨by omega, by omega⟩ (fun q186 => ?_) (fun q186 => ?_)
      · refine jj_iconst h d_M_delimiter_193 ?_
        refine jj_iret h he d_M_delimiter_194 ?_
        exact ⟨by rw [k5, if_neg (by omega)], rfl⟩
      · refine jj_iconst h d_M_delimiter_189 ?_
        refine jj_goto h 194 d_M_delimiter_190 (by decide) ?_
        refine jj_iret h he d_M_delimiter_194 ?_
        exact ⟨by rw [k5, if_pos (by omega)], rfl⟩
    | succ k ih =>
      intro q z k1 k2 k3 k4 k5
      have hq := hb q k2 (by omega)
      have hsc : slc (mem 184) q s = mem 184 q :: slc (mem 184) (q + 1) s := slc_cons (by omega)
      refine jj_iload h d_M_delimiter_149 rfl ?_
      refine jj_iload_n h d_M_delimiter_151 rfl ?_
      refine jj_icmp_ge h 174 d_M_delimiter_152 (by decide) ⟨by omega, by omega⟩ ⟨by omega, by omega⟩ (fun q152 => absurd q152 (by omega)) (fun _ => ?_)
      refine jj_aload_n h d_M_delimiter_155 rfl ⟨_, rfl⟩ ?_
      refine jj_g_M_src h  fl_M_13 d_M_delimiter_156 ?_
      refine jj_iload h d_M_delimiter_159 rfl ?_
      refine jj_iaload (N := 320) h (by decide) rfl (by decide) (by omega) (by omega) d_M_delimiter_161 ?_
      refine jj_callS h (cM_isBlank ⟨by omega, by omega⟩) cv_M_62 (ro_of he (by decide) (by decide)) rfl rfl rfl (Nat.le_of_ble_eq_true rfl) d_M_delimiter_162 (fun v m162 hv => ?_)
      obtain ⟨rfl, rfl⟩ := hv
      refine jj_if_eq h 174 d_M_delimiter_165 (by decide) ⟨by split <;> omega, by split <;> omega⟩ (fun q165 => ?_) (fun q165 => ?_)
      · have q165 : ¬ bl_ (mem 184 q) := fun z => by rw [if_pos z] at q165; omega
        refine jj_iload h d_M_delimiter_174 rfl ?_
        refine jj_iload_n h d_M_delimiter_176 rfl ?_
        refine jj_icmp_ge h 184 d_M_delimiter_177 (by decide) ⟨by omega, by omega⟩ ⟨by omega, by omega⟩ (fun q177 => absurd q177 (by omega)) (fun _ => ?_)
        refine jj_iconst h d_M_delimiter_180 ?_
        refine jj_goto h 194 d_M_delimiter_181 (by decide) ?_
        refine jj_iret h he d_M_delimiter_194 ?_
        exact ⟨by rw [k5, hsc, bb_, if_neg q165, if_neg (by simp)], rfl⟩
      · have q165 : bl_ (mem 184 q) := Decidable.byContradiction fun z => q165 (by rw [if_neg z])
        refine jj_iinc h d_M_delimiter_168 rfl rfl ?_
        refine jj_goto h 149 d_M_delimiter_171 (by decide) ?_
        exact ih (q + 1) z (by omega) (by omega) (by omega) k4 (by rw [k5, hsc, bb_blk _ q165])
  -- the boundary was there: perhaps "--"
  have cl : p + 2 + n ≤ s → K = mr_ (slc (mem 184) (p + 2 + n) s) → ∀ x y, JJ G X 0 0 mem 92 [some (vr G 182), some (vi e), some (vi p), some (vi s), some (vi n), x, y] [] := by
    intro c1 c2 x y
    refine jj_iload_n h d_M_delimiter_92 rfl ?_
    refine jj_iconst h d_M_delimiter_93 ?_
    refine jj_iadd h d_M_delimiter_94 ?_
    refine jj_iload h d_M_delimiter_95 rfl ?_
    refine jj_iadd h d_M_delimiter_97 ?_
    refine jj_istore h d_M_delimiter_98 (Nat.le_of_ble_eq_true rfl) rfl ?_
    refine jj_iload_n h d_M_delimiter_100 rfl ?_
    refine jj_iload h d_M_delimiter_101 rfl ?_
    refine jj_isub h d_M_delimiter_103 ?_
    refine jj_iconst h d_M_delimiter_104 ?_
    refine jj_icmp_lt h 138 d_M_delimiter_105 (by decide) ⟨by omega, by omega⟩ ⟨by omega, by omega⟩ (fun q105 => ?_) (fun q105 => ?_)
    · have e3 : strp [45, 45] (slc (mem 184) (p + 2 + n) s) = none := strp_short _ _ (by rw [slc_len]; simp only [List.length_cons, List.length_nil]; omega)
      refine jj_iconst h d_M_delimiter_138 ?_
      refine jj_istore h d_M_delimiter_139 (Nat.le_of_ble_eq_true rfl) rfl ?_
      refine jj_iload h d_M_delimiter_141 rfl ?_
      refine jj_if_eq h 149 d_M_delimiter_143 (by decide) ⟨by omega, by omega⟩ (fun _ => ?_) (fun q143 => absurd (rfl) q143)
      exact fin _ (p + 2 + n) 0 rfl (by omega) c1 (Or.inl rfl) (by rw [c2, mr_, e3]; rfl)
    · have b1 := hb (p + 2 + n) (by omega) (by omega)
      have b2 := hb (p + 2 + n + 1) (by omega) (by omega)
      have e2 : slc (mem 184) (p + 2 + n) s = mem 184 (p + 2 + n) :: mem 184 (p + 2 + n + 1) :: slc (mem 184) (p + 2 + n + 2) s := by rw [slc_cons (by omega : p + 2 + n < s), slc_cons (by omega : p + 2 + n + 1 < s), show p + 2 + n + 1 + 1 = p + 2 + n + 2 by omega]
      have e3 : strp [45, 45] (slc (mem 184) (p + 2 + n) s) = if mem 184 (p + 2 + n) = 45 then (if mem 184 (p + 2 + n + 1) = 45 then some (slc (mem 184) (p + 2 + n + 2) s) else none) else none := by rw [e2]; rfl
      refine jj_aload_n h d_M_delimiter_108 rfl ⟨_, rfl⟩ ?_
      refine jj_g_M_src h  fl_M_13 d_M_delimiter_109 ?_
      refine jj_iload h d_M_delimiter_112 rfl ?_
      refine jj_iaload (N := 320) h (by decide) rfl (by decide) (by omega) (by omega) d_M_delimiter_114 ?_
      refine jj_bipush h d_M_delimiter_115 (by decide) ?_
      refine jj_icmp_ne h 138 d_M_delimiter_117 (by decide) ⟨by omega, by omega⟩ ⟨by omega, by omega⟩ (fun q117 => ?_) (fun q117 => ?_)
      · rw [if_neg q117] at e3
        refine jj_iconst h d_M_delimiter_138 ?_
        refine jj_istore h d_M_delimiter_139 (Nat.le_of_ble_eq_true rfl) rfl ?_
        refine jj_iload h d_M_delimiter_141 rfl ?_
        refine jj_if_eq h 149 d_M_delimiter_143 (by decide) ⟨by omega, by omega⟩ (fun _ => ?_) (fun q143 => absurd (rfl) q143)
        exact fin _ (p + 2 + n) 0 rfl (by omega) c1 (Or.inl rfl) (by rw [c2, mr_, e3]; rfl)
      · refine jj_aload_n h d_M_delimiter_120 rfl ⟨_, rfl⟩ ?_
        refine jj_g_M_src h  fl_M_13 d_M_delimiter_121 ?_
        refine jj_iload h d_M_delimiter_124 rfl ?_
        refine jj_iconst h d_M_delimiter_126 ?_
        refine jj_iadd h d_M_delimiter_127 ?_
        refine jj_iaload (N := 320) h (by decide) rfl (by decide) (by omega) (by omega) d_M_delimiter_128 ?_
        refine jj_bipush h d_M_delimiter_129 (by decide) ?_
        refine jj_icmp_ne h 138 d_M_delimiter_131 (by decide) ⟨by omega, by omega⟩ ⟨by omega, by omega⟩ (fun q131 => ?_) (fun q131 => ?_)
        · rw [if_pos q117, if_neg q131] at e3
          refine jj_iconst h d_M_delimiter_138 ?_
          refine jj_istore h d_M_delimiter_139 (Nat.le_of_ble_eq_true rfl) rfl ?_
          refine jj_iload h d_M_delimiter_141 rfl ?_
          refine jj_if_eq h 149 d_M_delimiter_143 (by decide) ⟨by omega, by omega⟩ (fun _ => ?_) (fun q143 => absurd (rfl) q143)
          exact fin _ (p + 2 + n) 0 rfl (by omega) c1 (Or.inl rfl) (by rw [c2, mr_, e3]; rfl)
        · rw [if_pos q117, if_pos q131] at e3
          refine jj_iconst h d_M_delimiter_134 ?_
          refine jj_goto h 139 d_M_delimiter_135 (by decide) ?_
          refine jj_istore h d_M_delimiter_139 (Nat.le_of_ble_eq_true rfl) rfl ?_
          refine jj_iload h d_M_delimiter_141 rfl ?_
          refine jj_if_eq h 149 d_M_delimiter_143 (by decide) ⟨by omega, by omega⟩ (fun q143 => absurd q143 ((by decide))) (fun _ => ?_)
          refine jj_iinc h d_M_delimiter_146 rfl rfl ?_
          exact fin _ (p + 2 + n + 2) 1 rfl (by omega) (by omega) (Or.inr rfl) (by rw [c2, mr_, e3]; rfl)
  have loop : ∀ (j : Nat) (k : Int) (x : Option Value), (n - k).toNat = j → 0 ≤ k → k ≤ n → p + 2 + n ≤ s → (K = match strp (slc (mem 187) (A + k) (A + n)) (slc (mem 184) (p + 2 + k) s) with | none => 0 | some r => mr_ r) → JJ G X 0 0 mem 48 [some (vr G 182), some (vi e), some (vi p), some (vi s), some (vi n), some (vi k), x] [] := by
    intro j
    induction j with
    | zero =>
      intro k x k1 k2 k3 k4 k5
      rw [slc_nil (by omega), strp] at k5
      have hk : k = n := by omega
      subst hk
      refine jj_iload h d_M_delimiter_48 rfl ?_
      refine jj_iload h d_M_delimiter_50 rfl ?_
      refine jj_icmp_ge h 92 d_M_delimiter_52 (by decide) ⟨by omega, by omega⟩ ⟨by omega, by omega⟩ (fun _ => ?_) (fun q52 => absurd (by omega) q52)
      exact cl k4 k5 _ _
    | succ j ih =>
      intro k x k1 k2 k3 k4 k5
      have b1 := hb (p + 2 + k) (by omega) (by omega)
      have b2 := hbt (A + k) (by omega) (by omega)
      rw [slc_cons (by omega : A + k < A + n), slc_cons (by omega : p + 2 + k < s), strp] at k5
      refine jj_iload h d_M_delimiter_48 rfl ?_
      refine jj_iload h d_M_delimiter_50 rfl ?_
      refine jj_icmp_ge h 92 d_M_delimiter_52 (by decide) ⟨by omega, by omega⟩ ⟨by omega, by omega⟩ (fun q52 => absurd q52 (by omega)) (fun _ => ?_)
      refine jj_aload_n h d_M_delimiter_55 rfl ⟨_, rfl⟩ ?_
      refine jj_g_M_src h  fl_M_13 d_M_delimiter_56 ?_
      refine jj_iload_n h d_M_delimiter_59 rfl ?_
      refine jj_iconst h d_M_delimiter_60 ?_
      refine jj_iadd h d_M_delimiter_61 ?_
      refine jj_iload h d_M_delimiter_62 rfl ?_
      refine jj_iadd h d_M_delimiter_64 ?_
      refine jj_iaload (N := 320) h (by decide) rfl (by decide) (by omega) (by omega) d_M_delimiter_65 ?_
      refine jj_aload_n h d_M_delimiter_66 rfl ⟨_, rfl⟩ ?_
      refine jj_g_M_text h  fl_M_22 d_M_delimiter_67 ?_
      refine jj_aload_n h d_M_delimiter_70 rfl ⟨_, rfl⟩ ?_
      refine jj_iload_n h d_M_delimiter_71 rfl ?_
      refine jj_bipush h d_M_delimiter_72 (by decide) ?_
      refine jj_callV h (cM_of (by omega) (by omega)) cv_M_59 (ro_of he (by decide) (by decide)) rfl rfl (by decide) rfl rfl rfl (Nat.le_of_ble_eq_true rfl) d_M_delimiter_74 (fun v m74 hv => ?_)
      obtain ⟨rfl, rfl⟩ := hv
      rw [hA]
      refine jj_iload h d_M_delimiter_77 rfl ?_
      refine jj_iadd h d_M_delimiter_79 ?_
      refine jj_iaload (N := 1400) h (by decide) rfl (by decide) (by omega) (by omega) d_M_delimiter_80 ?_
      refine jj_icmp_eq h 86 d_M_delimiter_81 (by decide) ⟨by omega, by omega⟩ ⟨by omega, by omega⟩ (fun q81 => ?_) (fun q81 => ?_)
      · rw [if_pos q81] at k5
        refine jj_iinc h d_M_delimiter_86 rfl rfl ?_
        refine jj_goto h 48 d_M_delimiter_89 (by decide) ?_
        exact ih (k + 1) _ (by omega) (by omega) (by omega) k4 (by rw [show A + (k + 1) = A + k + 1 by omega, show p + 2 + (k + 1) = p + 2 + k + 1 by omega]; exact k5)
      · rw [if_neg q81] at k5
        refine jj_iconst h d_M_delimiter_84 ?_
        refine jj_iret h he d_M_delimiter_85 ?_
        exact ⟨by rw [k5], rfl⟩
  refine jj_aload_n h d_M_delimiter_0 rfl ⟨_, rfl⟩ ?_
  refine jj_iload_n h d_M_delimiter_1 rfl ?_
  refine jj_bipush h d_M_delimiter_2 (by decide) ?_
  refine jj_callV h (cM_of (by omega) (by omega)) cv_M_59 (ro_of he (by decide) (by decide)) rfl rfl (by decide) rfl rfl rfl (Nat.le_of_ble_eq_true rfl) d_M_delimiter_4 (fun v m4 hv => ?_)
  obtain ⟨rfl, rfl⟩ := hv
  rw [hB]
  refine jj_istore h d_M_delimiter_7 (Nat.le_of_ble_eq_true rfl) rfl ?_
  refine jj_iload_n h d_M_delimiter_9 rfl ?_
  refine jj_iload_n h d_M_delimiter_10 rfl ?_
  refine jj_isub h d_M_delimiter_11 ?_
  refine jj_iload h d_M_delimiter_12 rfl ?_
  refine jj_iconst h d_M_delimiter_14 ?_
  refine jj_iadd h d_M_delimiter_15 ?_
  refine jj_icmp_lt h 43 d_M_delimiter_16 (by decide) ⟨by omega, by omega⟩ ⟨by omega, by omega⟩ (fun q16 => ?_) (fun q16 => ?_)
  · have e1 : K = 0 := by rw [← hK]; unfold mk_; rw [strp_short _ _ (by rw [slc_len]; simp only [List.length_cons]; omega)]
    refine jj_iconst h d_M_delimiter_43 ?_
    refine jj_iret h he d_M_delimiter_44 ?_
    exact ⟨by rw [e1], rfl⟩
  · have b1 := hb p (by omega) (by omega)
    have b2 := hb (p + 1) (by omega) (by omega)
    have e2 : K = match (if mem 184 p = 45 then (if mem 184 (p + 1) = 45 then strp B (slc (mem 184) (p + 2) s) else none) else none) with | none => 0 | some r => mr_ r := by
      rw [← hK]; unfold mk_; rw [slc_cons (by omega : p < s), slc_cons (by omega : p + 1 < s), show p + 1 + 1 = p + 2 by omega]; rfl
    refine jj_aload_n h d_M_delimiter_19 rfl ⟨_, rfl⟩ ?_
    refine jj_g_M_src h  fl_M_13 d_M_delimiter_20 ?_
    refine jj_iload_n h d_M_delimiter_23 rfl ?_
    refine jj_iaload (N := 320) h (by decide) rfl (by decide) (by omega) (by omega) d_M_delimiter_24 ?_
    refine jj_bipush h d_M_delimiter_25 (by decide) ?_
    refine jj_icmp_ne h 43 d_M_delimiter_27 (by decide) ⟨by omega, by omega⟩ ⟨by omega, by omega⟩ (fun q27 => ?_) (fun q27 => ?_)
    · rw [if_neg q27] at e2
      refine jj_iconst h d_M_delimiter_43 ?_
      refine jj_iret h he d_M_delimiter_44 ?_
      exact ⟨by rw [e2], rfl⟩
    · refine jj_aload_n h d_M_delimiter_30 rfl ⟨_, rfl⟩ ?_
      refine jj_g_M_src h  fl_M_13 d_M_delimiter_31 ?_
      refine jj_iload_n h d_M_delimiter_34 rfl ?_
      refine jj_iconst h d_M_delimiter_35 ?_
      refine jj_iadd h d_M_delimiter_36 ?_
      refine jj_iaload (N := 320) h (by decide) rfl (by decide) (by omega) (by omega) d_M_delimiter_37 ?_
      refine jj_bipush h d_M_delimiter_38 (by decide) ?_
      refine jj_icmp_eq h 45 d_M_delimiter_40 (by decide) ⟨by omega, by omega⟩ ⟨by omega, by omega⟩ (fun q40 => ?_) (fun q40 => ?_)
      · rw [if_pos q27, if_pos q40] at e2
        refine jj_iconst h d_M_delimiter_45 ?_
        refine jj_istore h d_M_delimiter_46 (Nat.le_of_ble_eq_true rfl) rfl ?_
        exact loop _ 0 none rfl (by omega) hn0 (by omega) (by rw [show A + 0 = A from Int.add_zero _, hBt, show p + 2 + 0 = p + 2 from Int.add_zero _]; exact e2)
      · rw [if_pos q27, if_neg q40] at e2
        refine jj_iconst h d_M_delimiter_43 ?_
        refine jj_iret h he d_M_delimiter_44 ?_
        exact ⟨by rw [e2], rfl⟩
