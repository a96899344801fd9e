/-! The reference writes base64. -/
/-- A was written; the column is anything -/
def wc_ (m : mt_M) (A : List Int) (m' : mt_M) : Prop := ∃ k, st_ (pL m A) 182 19 k = m'
theorem wc_.ofL (m : mt_M) (A : List Int) : wc_ m A (pL m A) := ⟨_, st_id⟩
theorem wc_.nil (m : mt_M) : wc_ m [] m := ⟨_, st_id⟩
theorem wc_.out {m m' : mt_M} {A : List Int} (h : wc_ m A m') : m' 182 17 = m 182 17 + A.length := by
  obtain ⟨k, rfl⟩ := h; rw [st_ne (by decide), pL_out]
theorem wc_.M {m m' : mt_M} {A : List Int} (h : wc_ m A m') {z : Int} (h1 : z ≠ 17) (h2 : z ≠ 19) : m' 182 z = m 182 z := by
  obtain ⟨k, rfl⟩ := h; rw [st_ne (Or.inr h2), pL_M h1]
theorem wc_.row {m m' : mt_M} {A : List Int} (h : wc_ m A m') {r : Nat} (h1 : r ≠ 182) (h2 : r ≠ 190) : m' r = m r := by
  obtain ⟨k, rfl⟩ := h; rw [st_row h1, pL_row h1 h2]
theorem wc_.app {m m' m2 : mt_M} {A B : List Int} (h : wc_ m A m') (h2 : wc_ m' B m2) : wc_ m (A ++ B) m2 := by
  obtain ⟨k, rfl⟩ := h; obtain ⟨j, rfl⟩ := h2
  exact ⟨j, by rw [pL_col, st_st, pL_app]⟩
theorem wc_.col {m m' : mt_M} {A : List Int} (h : wc_ m A m') (k : Int) : wc_ m A (st_ m' 182 19 k) := by
  obtain ⟨j, rfl⟩ := h; exact ⟨k, by rw [st_st]⟩
theorem wc_.put {m m' : mt_M} {A : List Int} (h : wc_ m A m') (B : List Int) : wc_ m (A ++ B) (pL m' B) := h.app (wc_.ofL _ _)
theorem wc_.line {m m' : mt_M} {A : List Int} (h : wc_ m A m') : wc_ m (A ++ [13, 10]) (st_ (pL m' [13, 10]) 182 19 0) := (h.put _).col 0
def en24 (n : Int) : List Int := if 0 < n % 24 then [13, 10] else []
def nl24 (n : Int) : List Int := if n % 24 = 0 then [13, 10] else []
/-- to base64; n letters stand on the lines so far -/
def b6_ : Int → List Int → List Int
  | n, a :: b :: c :: t => [tl_ (a / 4), tl_ (a % 4 * 16 + b / 16), tl_ (b % 16 * 4 + c / 64), tl_ (c % 64)] ++ nl24 (n + 4) ++ b6_ (n + 4) t
  | n, [a, b] => [tl_ (a / 4), tl_ (a % 4 * 16 + b / 16), tl_ (b % 16 * 4 + 0 / 64), 61] ++ nl24 (n + 4) ++ en24 (n + 4)
  | n, [a] => [tl_ (a / 4), tl_ (a % 4 * 16 + 0 / 16), 61, 61] ++ nl24 (n + 4) ++ en24 (n + 4)
  | n, [] => en24 n
theorem nl_len (n : Int) : (nl24 n).length ≤ 2 := by unfold nl24; split <;> decide
theorem en_len (n : Int) : (en24 n).length ≤ 2 := by unfold en24; split <;> decide
theorem b6_len : ∀ (L : List Int) (n : Int), (b6_ n L).length ≤ 2 * L.length + 8
  | a :: b :: c :: t, n => by
    have := b6_len t (n + 4)
    have h2 := nl_len (n + 4)
    show ([tl_ (a / 4), tl_ (a % 4 * 16 + b / 16), tl_ (b % 16 * 4 + c / 64), tl_ (c % 64)] ++ nl24 (n + 4) ++ b6_ (n + 4) t).length ≤ 2 * (t.length + 1 + 1 + 1) + 8
    rw [List.length_append, List.length_append]
    show 4 + _ + _ ≤ _
    omega
  | [a, b], n => by
    have h1 := en_len (n + 4)
    have h2 := nl_len (n + 4)
    show ([tl_ (a / 4), tl_ (a % 4 * 16 + b / 16), tl_ (b % 16 * 4 + 0 / 64), 61] ++ nl24 (n + 4) ++ en24 (n + 4)).length ≤ 12
    rw [List.length_append, List.length_append]
    show 4 + _ + _ ≤ _
    omega
  | [a], n => by
    have h1 := en_len (n + 4)
    have h2 := nl_len (n + 4)
    show ([tl_ (a / 4), tl_ (a % 4 * 16 + 0 / 16), 61, 61] ++ nl24 (n + 4) ++ en24 (n + 4)).length ≤ 10
    rw [List.length_append, List.length_append]
    show 4 + _ + _ ≤ _
    omega
  | [], n => by
    have h1 := en_len n
    show (en24 n).length ≤ _
    omega
set_option maxHeartbeats 6000000 in
theorem cM_putLetters {G : mt_G} {l : Launch} {mem : mt_M} {p n : Int} (h0 : 0 ≤ mem 182 17) (h1 : mem 182 17 ≤ 1800000000) (hp : 0 ≤ p) (hn : 0 ≤ n) (hpn : p + n ≤ 1400) (hb : by_ (mem 187) p (p + n)) : CT G l y_M_putLetters c_M_putLetters 8 none 3 [vr G 182, vi p, vi n] mem (fun v m' => v = none ∧ wc_ mem (b6_ 0 (slc (mem 187) p (p + n))) m') := by
  refine CT.intro (by decide) rfl (Nat.le_of_ble_eq_true rfl) (fun X h he => ?_)
  generalize hT : b6_ 0 (slc (mem 187) p (p + n)) = T at *
  have exit : ∀ (k c : Int) (A : List Int) (m : mt_M) (x y z : Option Value), n ≤ k → k ≤ n + 2 → 0 ≤ c → c ≤ 2 * k → A.length ≤ 3 * k → wc_ mem A m → A ++ b6_ c (slc (mem 187) (p + k) (p + n)) = T → JJ G X 0 0 m 5 [some (vr G 182), some (vi p), some (vi n), some (vi c), some (vi k), x, y, z] [] := by
    intro k c A m x y z hk hk2 hc0 hc1 hA hm hT2
    rw [slc_nil (by omega)] at hT2
    have hT3 : A ++ en24 c = T := hT2
    have ho := hm.out
    refine jj_iload h d_M_putLetters_5 rfl ?_
    refine jj_iload_n h d_M_putLetters_7 rfl ?_
    refine jj_icmp_ge h 179 d_M_putLetters_8 (by decide) ⟨by omega, by omega⟩ ⟨by omega, by omega⟩ (fun _ => ?_) (fun q8 => absurd (by omega) q8)
    refine jj_iload_n h d_M_putLetters_179 rfl ?_
    refine jj_bipush h d_M_putLetters_180 (by decide) ?_
    refine jj_irem h d_M_putLetters_182 (by decide) ?_
    rw [irem_k (by omega) (by omega) (by decide) (by decide)]
    refine jj_if_le h 190 d_M_putLetters_183 (by decide) ⟨by omega, by omega⟩ (fun q183 => ?_) (fun q183 => ?_)
    · refine jj_vret h he d_M_putLetters_190 ?_
      refine ⟨rfl, ?_⟩
      unfold en24 at hT3; rw [if_neg (by omega), List.append_nil] at hT3
      rw [← hT3]; exact hm
    · refine jj_aload_n h d_M_putLetters_186 rfl ⟨_, rfl⟩ ?_
      refine jj_callV h (cM_putLine (by omega) (by omega)) cv_M_247 (ro_of he (by decide) (by decide)) rfl rfl (by decide) rfl rfl rfl (Nat.le_of_ble_eq_true rfl) d_M_putLetters_187 (fun v m187 hv => ?_)
      obtain ⟨rfl, rfl⟩ := hv
      refine jj_vret h he d_M_putLetters_190 ?_
      refine ⟨rfl, ?_⟩
      unfold en24 at hT3; rw [if_pos (by omega)] at hT3
      rw [← hT3]; exact hm.line
  have loop : ∀ (j : Nat) (k c : Int) (A : List Int) (m : mt_M) (x y z : Option Value), (n - k).toNat ≤ j → 0 ≤ k → k ≤ n + 2 → 0 ≤ c → c ≤ 2 * k → A.length ≤ 3 * k → wc_ mem A m → A ++ b6_ c (slc (mem 187) (p + k) (p + n)) = T → JJ G X 0 0 m 5 [some (vr G 182), some (vi p), some (vi n), some (vi c), some (vi k), x, y, z] [] := by
    intro j
    induction j with
    | zero =>
      intro k c A m x y z hj hk0 hk2 hc0 hc1 hA hm hT2
      exact exit k c A m x y z (by omega) hk2 hc0 hc1 hA hm hT2
    | succ j ih =>
      intro k c A m x y z hj hk0 hk2 hc0 hc1 hA hm hT2
      by_cases hkn : n ≤ k
      · exact exit k c A m x y z (by omega) hk2 hc0 hc1 hA hm hT2
      have ho := hm.out
      have hX := hm.row (r := 187) (by decide) (by decide)
      have tail : ∀ (q1 q2 q3 q4 : Int) (x y z : Option Value), A ++ [q1, q2, q3, q4] ++ nl24 (c + 4) ++ b6_ (c + 4) (slc (mem 187) (p + (k + 3)) (p + n)) = T → JJ G X 0 0 (pL m [q1, q2, q3, q4]) 159 [some (vr G 182), some (vi p), some (vi n), some (vi c), some (vi k), x, y, z] [] := by
        intro q1 q2 q3 q4 x y z hT3
        have hw := hm.put [q1, q2, q3, q4]
        have hlen : (A ++ [q1, q2, q3, q4]).length = A.length + 4 := by rw [List.length_append]; rfl
        generalize A ++ [q1, q2, q3, q4] = B at *
        generalize pL m [q1, q2, q3, q4] = m4 at *
        have hwo := hw.out
        refine jj_iinc h d_M_putLetters_159 rfl rfl ?_
        refine jj_iload_n h d_M_putLetters_162 rfl ?_
        refine jj_bipush h d_M_putLetters_163 (by decide) ?_
        refine jj_irem h d_M_putLetters_165 (by decide) ?_
        rw [irem_k (by omega) (by omega) (by decide) (by decide)]
        refine jj_if_ne h 173 d_M_putLetters_166 (by decide) ⟨by omega, by omega⟩ (fun q166 => ?_) (fun q166 => ?_)
        · refine jj_iinc h d_M_putLetters_173 rfl rfl ?_
          refine jj_goto h 5 d_M_putLetters_176 (by decide) ?_
          unfold nl24 at hT3; rw [if_neg (by omega), List.append_nil] at hT3
          exact ih (k + 3) (c + 4) B m4 _ _ _ (by omega) (by omega) (by omega) (by omega) (by omega) (by omega) hw hT3
        · refine jj_aload_n h d_M_putLetters_169 rfl ⟨_, rfl⟩ ?_
          refine jj_callV h (cM_putLine (by omega) (by omega)) cv_M_247 (ro_of he (by decide) (by decide)) rfl rfl (by decide) rfl rfl rfl (Nat.le_of_ble_eq_true rfl) d_M_putLetters_170 (fun v m170 hv => ?_)
          obtain ⟨rfl, rfl⟩ := hv
          refine jj_iinc h d_M_putLetters_173 rfl rfl ?_
          refine jj_goto h 5 d_M_putLetters_176 (by decide) ?_
          unfold nl24 at hT3; rw [if_pos (by omega)] at hT3
          exact ih (k + 3) (c + 4) (B ++ [13, 10]) _ _ _ _ (by omega) (by omega) (by omega) (by omega) (by omega) (by rw [List.length_append]; show ((B.length + 2 : Nat) : Int) ≤ _; omega) hw.line hT3
      have ba := hb (p + k) (by omega) (by omega)
      rw [slc_cons (by omega)] at hT2
      generalize ha : (mem 187) (p + k) = a at *
      by_cases k1 : k + 1 < n
      · have bb := hb (p + k + 1) (by omega) (by omega)
        rw [slc_cons (by omega)] at hT2
        generalize hb9 : (mem 187) (p + k + 1) = b at *
        by_cases k2 : k + 2 < n
        · have bc := hb (p + k + 2) (by omega) (by omega)
          rw [slc_cons (by omega), show p + k + 1 + 1 = p + k + 2 by omega] at hT2
          generalize hc9 : (mem 187) (p + k + 2) = d at *
          have hT3 : A ++ ([tl_ (a / 4), tl_ (a % 4 * 16 + b / 16), tl_ (b % 16 * 4 + d / 64), tl_ (d % 64)] ++ nl24 (c + 4) ++ b6_ (c + 4) (slc (mem 187) (p + k + 2 + 1) (p + n))) = T := hT2
          rw [show p + k + 2 + 1 = p + (k + 3) by omega, ← List.append_assoc, ← List.append_assoc] at hT3
          refine jj_iload h d_M_putLetters_5 rfl ?_
          refine jj_iload_n h d_M_putLetters_7 rfl ?_
          refine jj_icmp_ge h 179 d_M_putLetters_8 (by decide) ⟨by omega, by omega⟩ ⟨by omega, by omega⟩ (fun q8 => absurd q8 (by omega)) (fun _ => ?_)
          refine jj_aload_n h d_M_putLetters_11 rfl ⟨_, rfl⟩ ?_
          refine jj_g_M_text h  fl_M_22 d_M_putLetters_12 ?_
          refine jj_iload_n h d_M_putLetters_15 rfl ?_
          refine jj_iload h d_M_putLetters_16 rfl ?_
          refine jj_iadd h d_M_putLetters_18 ?_
          refine jj_iaload (N := 1400) h (by decide) rfl (by decide) (by omega) (by omega) d_M_putLetters_19 ?_
          rw [hX, ha]
          refine jj_istore h d_M_putLetters_20 (Nat.le_of_ble_eq_true rfl) rfl ?_
          refine jj_iload h d_M_putLetters_22 rfl ?_
          refine jj_iconst h d_M_putLetters_24 ?_
          refine jj_iadd h d_M_putLetters_25 ?_
          refine jj_iload_n h d_M_putLetters_26 rfl ?_
          refine jj_icmp_ge h 44 d_M_putLetters_27 (by decide) ⟨by omega, by omega⟩ ⟨by omega, by omega⟩ (fun q27 => absurd q27 (by omega)) (fun _ => ?_)
          refine jj_aload_n h d_M_putLetters_30 rfl ⟨_, rfl⟩ ?_
          refine jj_g_M_text h  fl_M_22 d_M_putLetters_31 ?_
          refine jj_iload_n h d_M_putLetters_34 rfl ?_
          refine jj_iload h d_M_putLetters_35 rfl ?_
          refine jj_iadd h d_M_putLetters_37 ?_
          refine jj_iconst h d_M_putLetters_38 ?_
          refine jj_iadd h d_M_putLetters_39 ?_
          refine jj_iaload (N := 1400) h (by decide) rfl (by decide) (by omega) (by omega) d_M_putLetters_40 ?_
          rw [hX, hb9]
          refine jj_goto h 45 d_M_putLetters_41 (by decide) ?_
          refine jj_istore h d_M_putLetters_45 (Nat.le_of_ble_eq_true rfl) rfl ?_
          refine jj_iload h d_M_putLetters_47 rfl ?_
          refine jj_iconst h d_M_putLetters_49 ?_
          refine jj_iadd h d_M_putLetters_50 ?_
          refine jj_iload_n h d_M_putLetters_51 rfl ?_
          refine jj_icmp_ge h 69 d_M_putLetters_52 (by decide) ⟨by omega, by omega⟩ ⟨by omega, by omega⟩ (fun q52 => absurd q52 (by omega)) (fun _ => ?_)
          refine jj_aload_n h d_M_putLetters_55 rfl ⟨_, rfl⟩ ?_
          refine jj_g_M_text h  fl_M_22 d_M_putLetters_56 ?_
          refine jj_iload_n h d_M_putLetters_59 rfl ?_
          refine jj_iload h d_M_putLetters_60 rfl ?_
          refine jj_iadd h d_M_putLetters_62 ?_
          refine jj_iconst h d_M_putLetters_63 ?_
          refine jj_iadd h d_M_putLetters_64 ?_
          refine jj_iaload (N := 1400) h (by decide) rfl (by decide) (by omega) (by omega) d_M_putLetters_65 ?_
          rw [hX, hc9]
          refine jj_goto h 70 d_M_putLetters_66 (by decide) ?_
          refine jj_istore h d_M_putLetters_70 (Nat.le_of_ble_eq_true rfl) rfl ?_
          refine jj_aload_n h d_M_putLetters_72 rfl ⟨_, rfl⟩ ?_
          refine jj_iload h d_M_putLetters_73 rfl ?_
          refine jj_iconst h d_M_putLetters_75 ?_
          refine jj_ishr h d_M_putLetters_76 ?_
          rw [ishr_k 2 (P := 4) (by decide) (by decide) (by omega) (by omega)]
          refine jj_callS h (cM_toLetter (by omega) (by omega)) cv_M_244 (ro_of he (by decide) (by decide)) rfl rfl rfl (Nat.le_of_ble_eq_true rfl) d_M_putLetters_77 (fun v m77 hv => ?_)
          obtain ⟨rfl, rfl⟩ := hv
          refine jj_callV h (cM_put (by omega) (by omega)) cv_M_238 (ro_of he (by decide) (by decide)) rfl rfl (by decide) rfl rfl rfl (Nat.le_of_ble_eq_true rfl) d_M_putLetters_80 (fun v m80 hv => ?_)
          obtain ⟨rfl, rfl⟩ := hv
          refine jj_aload_n h d_M_putLetters_83 rfl ⟨_, rfl⟩ ?_
          refine jj_iload h d_M_putLetters_84 rfl ?_
          refine jj_iconst h d_M_putLetters_86 ?_
          refine jj_iand h d_M_putLetters_87 ?_
          rw [iand_k 2 (P := 4) (by decide) (by decide) (by omega) (by omega)]
          refine jj_iconst h d_M_putLetters_88 ?_
          refine jj_ishl h d_M_putLetters_89 ?_
          rw [ishl_k 4 (P := 16) (by decide) (by decide) (by omega) (by omega)]
          refine jj_iload h d_M_putLetters_90 rfl ?_
          refine jj_iconst h d_M_putLetters_92 ?_
          refine jj_ishr h d_M_putLetters_93 ?_
          rw [ishr_k 4 (P := 16) (by decide) (by decide) (by omega) (by omega)]
          refine jj_ior h d_M_putLetters_94 ?_
          rw [ior_k 4 (P := 16) (by decide) (by omega) (by omega) (by omega) (by omega)]
          refine jj_callS h (cM_toLetter (by omega) (by omega)) cv_M_244 (ro_of he (by decide) (by decide)) rfl rfl rfl (Nat.le_of_ble_eq_true rfl) d_M_putLetters_95 (fun v m95 hv => ?_)
          obtain ⟨rfl, rfl⟩ := hv
          refine jj_callV h (cM_put (by simp only [pL_out, List.length_cons, List.length_nil]; omega) (by simp only [pL_out, List.length_cons, List.length_nil]; omega)) cv_M_238 (ro_of he (by decide) (by decide)) rfl rfl (by decide) rfl rfl rfl (Nat.le_of_ble_eq_true rfl) d_M_putLetters_98 (fun v m98 hv => ?_)
          obtain ⟨rfl, rfl⟩ := hv
          refine jj_aload_n h d_M_putLetters_101 rfl ⟨_, rfl⟩ ?_
          refine jj_iload h d_M_putLetters_102 rfl ?_
          refine jj_iconst h d_M_putLetters_104 ?_
          refine jj_iadd h d_M_putLetters_105 ?_
          refine jj_iload_n h d_M_putLetters_106 rfl ?_
          refine jj_icmp_ge h 129 d_M_putLetters_107 (by decide) ⟨by omega, by omega⟩ ⟨by omega, by omega⟩ (fun q107 => absurd q107 (by omega)) (fun _ => ?_)
          refine jj_iload h d_M_putLetters_110 rfl ?_
          refine jj_bipush h d_M_putLetters_112 (by decide) ?_
          refine jj_iand h d_M_putLetters_114 ?_
          rw [iand_k 4 (P := 16) (by decide) (by decide) (by omega) (by omega)]
          refine jj_iconst h d_M_putLetters_115 ?_
          refine jj_ishl h d_M_putLetters_116 ?_
          rw [ishl_k 2 (P := 4) (by decide) (by decide) (by omega) (by omega)]
          refine jj_iload h d_M_putLetters_117 rfl ?_
          refine jj_bipush h d_M_putLetters_119 (by decide) ?_
          refine jj_ishr h d_M_putLetters_121 ?_
          rw [ishr_k 6 (P := 64) (by decide) (by decide) (by omega) (by omega)]
          refine jj_ior h d_M_putLetters_122 ?_
          rw [ior_k 2 (P := 4) (by decide) (by omega) (by omega) (by omega) (by omega)]
          refine jj_callS h (cM_toLetter (by omega) (by omega)) cv_M_244 (ro_of he (by decide) (by decide)) rfl rfl rfl (Nat.le_of_ble_eq_true rfl) d_M_putLetters_123 (fun v m123 hv => ?_)
          obtain ⟨rfl, rfl⟩ := hv
          refine jj_goto h 131 d_M_putLetters_126 (by decide) ?_
          refine jj_callV h (cM_put (by simp only [pL_out, List.length_cons, List.length_nil]; omega) (by simp only [pL_out, List.length_cons, List.length_nil]; omega)) cv_M_238 (ro_of he (by decide) (by decide)) rfl rfl (by decide) rfl rfl rfl (Nat.le_of_ble_eq_true rfl) d_M_putLetters_131 (fun v m131 hv => ?_)
          obtain ⟨rfl, rfl⟩ := hv
          refine jj_aload_n h d_M_putLetters_134 rfl ⟨_, rfl⟩ ?_
          refine jj_iload h d_M_putLetters_135 rfl ?_
          refine jj_iconst h d_M_putLetters_137 ?_
          refine jj_iadd h d_M_putLetters_138 ?_
          refine jj_iload_n h d_M_putLetters_139 rfl ?_
          refine jj_icmp_ge h 154 d_M_putLetters_140 (by decide) ⟨by omega, by omega⟩ ⟨by omega, by omega⟩ (fun q140 => absurd q140 (by omega)) (fun _ => ?_)
          refine jj_iload h d_M_putLetters_143 rfl ?_
          refine jj_bipush h d_M_putLetters_145 (by decide) ?_
          refine jj_iand h d_M_putLetters_147 ?_
          rw [iand_k 6 (P := 64) (by decide) (by decide) (by omega) (by omega)]
          refine jj_callS h (cM_toLetter (by omega) (by omega)) cv_M_244 (ro_of he (by decide) (by decide)) rfl rfl rfl (Nat.le_of_ble_eq_true rfl) d_M_putLetters_148 (fun v m148 hv => ?_)
          obtain ⟨rfl, rfl⟩ := hv
          refine jj_goto h 156 d_M_putLetters_151 (by decide) ?_
          refine jj_callV h (cM_put (by simp only [pL_out, List.length_cons, List.length_nil]; omega) (by simp only [pL_out, List.length_cons, List.length_nil]; omega)) cv_M_238 (ro_of he (by decide) (by decide)) rfl rfl (by decide) rfl rfl rfl (Nat.le_of_ble_eq_true rfl) d_M_putLetters_156 (fun v m156 hv => ?_)
          obtain ⟨rfl, rfl⟩ := hv
          exact tail _ _ _ _ _ _ _ hT3
        · rw [slc_nil (by omega)] at hT2
          have hT3 : A ++ ([tl_ (a / 4), tl_ (a % 4 * 16 + b / 16), tl_ (b % 16 * 4 + 0 / 64), 61] ++ nl24 (c + 4) ++ en24 (c + 4)) = T := hT2
          rw [← List.append_assoc, ← List.append_assoc] at hT3
          have hT4 : ∀ B, B ++ en24 (c + 4) = T → B ++ b6_ (c + 4) (slc (mem 187) (p + (k + 3)) (p + n)) = T := fun B hB => by rw [slc_nil (by omega)]; exact hB
          refine jj_iload h d_M_putLetters_5 rfl ?_
          refine jj_iload_n h d_M_putLetters_7 rfl ?_
          refine jj_icmp_ge h 179 d_M_putLetters_8 (by decide) ⟨by omega, by omega⟩ ⟨by omega, by omega⟩ (fun q8 => absurd q8 (by omega)) (fun _ => ?_)
          refine jj_aload_n h d_M_putLetters_11 rfl ⟨_, rfl⟩ ?_
          refine jj_g_M_text h  fl_M_22 d_M_putLetters_12 ?_
          refine jj_iload_n h d_M_putLetters_15 rfl ?_
          refine jj_iload h d_M_putLetters_16 rfl ?_
          refine jj_iadd h d_M_putLetters_18 ?_
          refine jj_iaload (N := 1400) h (by decide) rfl (by decide) (by omega) (by omega) d_M_putLetters_19 ?_
          rw [hX, ha]
          refine jj_istore h d_M_putLetters_20 (Nat.le_of_ble_eq_true rfl) rfl ?_
          refine jj_iload h d_M_putLetters_22 rfl ?_
          refine jj_iconst h d_M_putLetters_24 ?_
          refine jj_iadd h d_M_putLetters_25 ?_
          refine jj_iload_n h d_M_putLetters_26 rfl ?_
          refine jj_icmp_ge h 44 d_M_putLetters_27 (by decide) ⟨by omega, by omega⟩ ⟨by omega, by omega⟩ (fun q27 => absurd q27 (by omega)) (fun _ => ?_)
          refine jj_aload_n h d_M_putLetters_30 rfl ⟨_, rfl⟩ ?_
          refine jj_g_M_text h  fl_M_22 d_M_putLetters_31 ?_
          refine jj_iload_n h d_M_putLetters_34 rfl ?_
          refine jj_iload h d_M_putLetters_35 rfl ?_
          refine jj_iadd h d_M_putLetters_37 ?_
          refine jj_iconst h d_M_putLetters_38 ?_
          refine jj_iadd h d_M_putLetters_39 ?_
          refine jj_iaload (N := 1400) h (by decide) rfl (by decide) (by omega) (by omega) d_M_putLetters_40 ?_
          rw [hX, hb9]
          refine jj_goto h 45 d_M_putLetters_41 (by decide) ?_
          refine jj_istore h d_M_putLetters_45 (Nat.le_of_ble_eq_true rfl) rfl ?_
          refine jj_iload h d_M_putLetters_47 rfl ?_
          refine jj_iconst h d_M_putLetters_49 ?_
          refine jj_iadd h d_M_putLetters_50 ?_
          refine jj_iload_n h d_M_putLetters_51 rfl ?_
          refine jj_icmp_ge h 69 d_M_putLetters_52 (by decide) ⟨by omega, by omega⟩ ⟨by omega, by omega⟩ (fun _ => ?_) (fun q52 => absurd (by omega) q52)
          refine jj_iconst h d_M_putLetters_69 ?_
          refine jj_istore h d_M_putLetters_70 (Nat.le_of_ble_eq_true rfl) rfl ?_
          refine jj_aload_n h d_M_putLetters_72 rfl ⟨_, rfl⟩ ?_
          refine jj_iload h d_M_putLetters_73 rfl ?_
          refine jj_iconst h d_M_putLetters_75 ?_
          refine jj_ishr h d_M_putLetters_76 ?_
          rw [ishr_k 2 (P := 4) (by decide) (by decide) (by omega) (by omega)]
          refine jj_callS h (cM_toLetter (by omega) (by omega)) cv_M_244 (ro_of he (by decide) (by decide)) rfl rfl rfl (Nat.le_of_ble_eq_true rfl) d_M_putLetters_77 (fun v m77 hv => ?_)
          obtain ⟨rfl, rfl⟩ := hv
          refine jj_callV h (cM_put (by omega) (by omega)) cv_M_238 (ro_of he (by decide) (by decide)) rfl rfl (by decide) rfl rfl rfl (Nat.le_of_ble_eq_true rfl) d_M_putLetters_80 (fun v m80 hv => ?_)
          obtain ⟨rfl, rfl⟩ := hv
          refine jj_aload_n h d_M_putLetters_83 rfl ⟨_, rfl⟩ ?_
          refine jj_iload h d_M_putLetters_84 rfl ?_
          refine jj_iconst h d_M_putLetters_86 ?_
          refine jj_iand h d_M_putLetters_87 ?_
          rw [iand_k 2 (P := 4) (by decide) (by decide) (by omega) (by omega)]
          refine jj_iconst h d_M_putLetters_88 ?_
          refine jj_ishl h d_M_putLetters_89 ?_
          rw [ishl_k 4 (P := 16) (by decide) (by decide) (by omega) (by omega)]
          refine jj_iload h d_M_putLetters_90 rfl ?_
          refine jj_iconst h d_M_putLetters_92 ?_
          refine jj_ishr h d_M_putLetters_93 ?_
          rw [ishr_k 4 (P := 16) (by decide) (by decide) (by omega) (by omega)]
          refine jj_ior h d_M_putLetters_94 ?_
          rw [ior_k 4 (P := 16) (by decide) (by omega) (by omega) (by omega) (by omega)]
          refine jj_callS h (cM_toLetter (by omega) (by omega)) cv_M_244 (ro_of he (by decide) (by decide)) rfl rfl rfl (Nat.le_of_ble_eq_true rfl) d_M_putLetters_95 (fun v m95 hv => ?_)
          obtain ⟨rfl, rfl⟩ := hv
          refine jj_callV h (cM_put (by simp only [pL_out, List.length_cons, List.length_nil]; omega) (by simp only [pL_out, List.length_cons, List.length_nil]; omega)) cv_M_238 (ro_of he (by decide) (by decide)) rfl rfl (by decide) rfl rfl rfl (Nat.le_of_ble_eq_true rfl) d_M_putLetters_98 (fun v m98 hv => ?_)
          obtain ⟨rfl, rfl⟩ := hv
          refine jj_aload_n h d_M_putLetters_101 rfl ⟨_, rfl⟩ ?_
          refine jj_iload h d_M_putLetters_102 rfl ?_
          refine jj_iconst h d_M_putLetters_104 ?_
          refine jj_iadd h d_M_putLetters_105 ?_
          refine jj_iload_n h d_M_putLetters_106 rfl ?_
          refine jj_icmp_ge h 129 d_M_putLetters_107 (by decide) ⟨by omega, by omega⟩ ⟨by omega, by omega⟩ (fun q107 => absurd q107 (by omega)) (fun _ => ?_)
          refine jj_iload h d_M_putLetters_110 rfl ?_
          refine jj_bipush h d_M_putLetters_112 (by decide) ?_
          refine jj_iand h d_M_putLetters_114 ?_
          rw [iand_k 4 (P := 16) (by decide) (by decide) (by omega) (by omega)]
          refine jj_iconst h d_M_putLetters_115 ?_
          refine jj_ishl h d_M_putLetters_116 ?_
          rw [ishl_k 2 (P := 4) (by decide) (by decide) (by omega) (by omega)]
          refine jj_iload h d_M_putLetters_117 rfl ?_
          refine jj_bipush h d_M_putLetters_119 (by decide) ?_
          refine jj_ishr h d_M_putLetters_121 ?_
          rw [ishr_k 6 (P := 64) (by decide) (by decide) (by omega) (by omega)]
          refine jj_ior h d_M_putLetters_122 ?_
          rw [ior_k 2 (P := 4) (by decide) (by omega) (by omega) (by omega) (by omega)]
          refine jj_callS h (cM_toLetter (by omega) (by omega)) cv_M_244 (ro_of he (by decide) (by decide)) rfl rfl rfl (Nat.le_of_ble_eq_true rfl) d_M_putLetters_123 (fun v m123 hv => ?_)
          obtain ⟨rfl, rfl⟩ := hv
          refine jj_goto h 131 d_M_putLetters_126 (by decide) ?_
          refine jj_callV h (cM_put (by simp only [pL_out, List.length_cons, List.length_nil]; omega) (by simp only [pL_out, List.length_cons, List.length_nil]; omega)) cv_M_238 (ro_of he (by decide) (by decide)) rfl rfl (by decide) rfl rfl rfl (Nat.le_of_ble_eq_true rfl) d_M_putLetters_131 (fun v m131 hv => ?_)
          obtain ⟨rfl, rfl⟩ := hv
          refine jj_aload_n h d_M_putLetters_134 rfl ⟨_, rfl⟩ ?_
          refine jj_iload h d_M_putLetters_135 rfl ?_
          refine jj_iconst h d_M_putLetters_137 ?_
          refine jj_iadd h d_M_putLetters_138 ?_
          refine jj_iload_n h d_M_putLetters_139 rfl ?_
          refine jj_icmp_ge h 154 d_M_putLetters_140 (by decide) ⟨by omega, by omega⟩ ⟨by omega, by omega⟩ (fun _ => ?_) (fun q140 => absurd (by omega) q140)
          refine jj_bipush h d_M_putLetters_154 (by decide) ?_
          refine jj_callV h (cM_put (by simp only [pL_out, List.length_cons, List.length_nil]; omega) (by simp only [pL_out, List.length_cons, List.length_nil]; omega)) cv_M_238 (ro_of he (by decide) (by decide)) rfl rfl (by decide) rfl rfl rfl (Nat.le_of_ble_eq_true rfl) d_M_putLetters_156 (fun v m156 hv => ?_)
          obtain ⟨rfl, rfl⟩ := hv
          exact tail _ _ _ _ _ _ _ (hT4 _ hT3)
      · rw [slc_nil (by omega)] at hT2
        have hT3 : A ++ ([tl_ (a / 4), tl_ (a % 4 * 16 + 0 / 16), 61, 61] ++ nl24 (c + 4) ++ en24 (c + 4)) = T := hT2
        rw [← List.append_assoc, ← List.append_assoc] at hT3
        have hT4 : ∀ B, B ++ en24 (c + 4) = T → B ++ b6_ (c + 4) (slc (mem 187) (p + (k + 3)) (p + n)) = T := fun B hB => by rw [slc_nil (by omega)]; exact hB
        refine jj_iload h d_M_putLetters_5 rfl ?_
        refine jj_iload_n h d_M_putLetters_7 rfl ?_
        refine jj_icmp_ge h 179 d_M_putLetters_8 (by decide) ⟨by omega, by omega⟩ ⟨by omega, by omega⟩ (fun q8 => absurd q8 (by omega)) (fun _ => ?_)
        refine jj_aload_n h d_M_putLetters_11 rfl ⟨_, rfl⟩ ?_
        refine jj_g_M_text h  fl_M_22 d_M_putLetters_12 ?_
        refine jj_iload_n h d_M_putLetters_15 rfl ?_
        refine jj_iload h d_M_putLetters_16 rfl ?_
        refine jj_iadd h d_M_putLetters_18 ?_
        refine jj_iaload (N := 1400) h (by decide) rfl (by decide) (by omega) (by omega) d_M_putLetters_19 ?_
        rw [hX, ha]
        refine jj_istore h d_M_putLetters_20 (Nat.le_of_ble_eq_true rfl) rfl ?_
        refine jj_iload h d_M_putLetters_22 rfl ?_
        refine jj_iconst h d_M_putLetters_24 ?_
        refine jj_iadd h d_M_putLetters_25 ?_
        refine jj_iload_n h d_M_putLetters_26 rfl ?_
        refine jj_icmp_ge h 44 d_M_putLetters_27 (by decide) ⟨by omega, by omega⟩ ⟨by omega, by omega⟩ (fun _ => ?_) (fun q27 => absurd (by omega) q27)
        refine jj_iconst h d_M_putLetters_44 ?_
        refine jj_istore h d_M_putLetters_45 (Nat.le_of_ble_eq_true rfl) rfl ?_
        refine jj_iload h d_M_putLetters_47 rfl ?_
        refine jj_iconst h d_M_putLetters_49 ?_
        refine jj_iadd h d_M_putLetters_50 ?_
        refine jj_iload_n h d_M_putLetters_51 rfl ?_
        refine jj_icmp_ge h 69 d_M_putLetters_52 (by decide) ⟨by omega, by omega⟩ ⟨by omega, by omega⟩ (fun _ => ?_) (fun q52 => absurd (by omega) q52)
        refine jj_iconst h d_M_putLetters_69 ?_
        refine jj_istore h d_M_putLetters_70 (Nat.le_of_ble_eq_true rfl) rfl ?_
        refine jj_aload_n h d_M_putLetters_72 rfl ⟨_, rfl⟩ ?_
        refine jj_iload h d_M_putLetters_73 rfl ?_
        refine jj_iconst h d_M_putLetters_75 ?_
        refine jj_ishr h d_M_putLetters_76 ?_
        rw [ishr_k 2 (P := 4) (by decide) (by decide) (by omega) (by omega)]
        refine jj_callS h (cM_toLetter (by omega) (by omega)) cv_M_244 (ro_of he (by decide) (by decide)) rfl rfl rfl (Nat.le_of_ble_eq_true rfl) d_M_putLetters_77 (fun v m77 hv => ?_)
        obtain ⟨rfl, rfl⟩ := hv
        refine jj_callV h (cM_put (by omega) (by omega)) cv_M_238 (ro_of he (by decide) (by decide)) rfl rfl (by decide) rfl rfl rfl (Nat.le_of_ble_eq_true rfl) d_M_putLetters_80 (fun v m80 hv => ?_)
        obtain ⟨rfl, rfl⟩ := hv
        refine jj_aload_n h d_M_putLetters_83 rfl ⟨_, rfl⟩ ?_
        refine jj_iload h d_M_putLetters_84 rfl ?_
        refine jj_iconst h d_M_putLetters_86 ?_
        refine jj_iand h d_M_putLetters_87 ?_
        rw [iand_k 2 (P := 4) (by decide) (by decide) (by omega) (by omega)]
        refine jj_iconst h d_M_putLetters_88 ?_
        refine jj_ishl h d_M_putLetters_89 ?_
        rw [ishl_k 4 (P := 16) (by decide) (by decide) (by omega) (by omega)]
        refine jj_iload h d_M_putLetters_90 rfl ?_
        refine jj_iconst h d_M_putLetters_92 ?_
        refine jj_ishr h d_M_putLetters_93 ?_
        rw [ishr_k 4 (P := 16) (by decide) (by decide) (by omega) (by omega)]
        refine jj_ior h d_M_putLetters_94 ?_
        rw [ior_k 4 (P := 16) (by decide) (by omega) (by omega) (by omega) (by omega)]
        refine jj_callS h (cM_toLetter (by omega) (by omega)) cv_M_244 (ro_of he (by decide) (by decide)) rfl rfl rfl (Nat.le_of_ble_eq_true rfl) d_M_putLetters_95 (fun v m95 hv => ?_)
        obtain ⟨rfl, rfl⟩ := hv
        refine jj_callV h (cM_put (by simp only [pL_out, List.length_cons, List.length_nil]; omega) (by simp only [pL_out, List.length_cons, List.length_nil]; omega)) cv_M_238 (ro_of he (by decide) (by decide)) rfl rfl (by decide) rfl rfl rfl (Nat.le_of_ble_eq_true rfl) d_M_putLetters_98 (fun v m98 hv => ?_)
        obtain ⟨rfl, rfl⟩ := hv
        refine jj_aload_n h d_M_putLetters_101 rfl ⟨_, rfl⟩ ?_
        refine jj_iload h d_M_putLetters_102 rfl ?_
        refine jj_iconst h d_M_putLetters_104 ?_
        refine jj_iadd h d_M_putLetters_105 ?_
        refine jj_iload_n h d_M_putLetters_106 rfl ?_
        refine jj_icmp_ge h 129 d_M_putLetters_107 (by decide) ⟨by omega, by omega⟩ ⟨by omega, by omega⟩ (fun _ => ?_) (fun q107 => absurd (by omega) q107)
        refine jj_bipush h d_M_putLetters_129 (by decide) ?_
        refine jj_callV h (cM_put (by simp only [pL_out, List.length_cons, List.length_nil]; omega) (by simp only [pL_out, List.length_cons, List.length_nil]; omega)) cv_M_238 (ro_of he (by decide) (by decide)) rfl rfl (by decide) rfl rfl rfl (Nat.le_of_ble_eq_true rfl) d_M_putLetters_131 (fun v m131 hv => ?_)
        obtain ⟨rfl, rfl⟩ := hv
        refine jj_aload_n h d_M_putLetters_134 rfl ⟨_, rfl⟩ ?_
        refine jj_iload h d_M_putLetters_135 rfl ?_
        refine jj_iconst h d_M_putLetters_137 ?_
        refine jj_iadd h d_M_putLetters_138 ?_
        refine jj_iload_n h d_M_putLetters_139 rfl ?_
        refine jj_icmp_ge h 154 d_M_putLetters_140 (by decide) ⟨by omega, by omega⟩ ⟨by omega, by omega⟩ (fun _ => ?_) (fun q140 => absurd (by omega) q140)
        refine jj_bipush h d_M_putLetters_154 (by decide) ?_
        refine jj_callV h (cM_put (by simp only [pL_out, List.length_cons, List.length_nil]; omega) (by simp only [pL_out, List.length_cons, List.length_nil]; omega)) cv_M_238 (ro_of he (by decide) (by decide)) rfl rfl (by decide) rfl rfl rfl (Nat.le_of_ble_eq_true rfl) d_M_putLetters_156 (fun v m156 hv => ?_)
        obtain ⟨rfl, rfl⟩ := hv
        exact tail _ _ _ _ _ _ _ (hT4 _ hT3)
  refine jj_iconst h d_M_putLetters_0 ?_
  refine jj_istore_n h d_M_putLetters_1 (Nat.le_of_ble_eq_true rfl) rfl ?_
  refine jj_iconst h d_M_putLetters_2 ?_
  refine jj_istore h d_M_putLetters_3 (Nat.le_of_ble_eq_true rfl) rfl ?_
  exact loop n.toNat 0 0 [] mem _ _ _ (by omega) (by omega) (by omega) (by omega) (by omega) (by show ((0 : Nat) : Int) ≤ _; omega) (wc_.nil _) (by rw [Int.add_zero]; exact hT)
