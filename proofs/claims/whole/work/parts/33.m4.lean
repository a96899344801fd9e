/-! The reference: quoted ones; what scanning may change. -/
theorem k1_at (m : mt_M) (c : Int) (r : Nat) (z : Int) : k1 m c r z = if r = 182 ∧ z = 9 then m 182 9 + 1 else if r = 187 ∧ z = m 182 9 then c else m r z := by
  simp only [k1, st_at]
/-- scanning: the text behind its end, and the scanner's own numbers, may have changed -/
def fr_ (mem m : mt_M) : Prop := mem 182 9 ≤ m 182 9 ∧ ∀ (r : Nat) (z : Int), (r ≠ 187 ∨ z < mem 182 9) → (r ≠ 182 ∨ (z ≠ 13 ∧ z ≠ 15 ∧ z ≠ 16 ∧ z ≠ 9)) → m r z = mem r z
theorem fr_.rf {mem : mt_M} : fr_ mem mem := ⟨Int.le_refl _, fun _ _ _ _ => rfl⟩
theorem fr_.trans {a b c : mt_M} (h1 : fr_ a b) (h2 : fr_ b c) : fr_ a c := ⟨Int.le_trans h1.1 h2.1, fun r z p q => by
  rw [h2.2 r z (by have := h1.1; rcases p with p | p; exact Or.inl p; exact Or.inr (by omega)) q]; exact h1.2 r z p q⟩
theorem fr_.st {a b : mt_M} {z v : Int} (h : fr_ a b) (hz : z = 13 ∨ z = 15 ∨ z = 16) : fr_ a (st_ b 182 z v) := ⟨by rw [st_ne (by rcases hz with rfl | rfl | rfl <;> decide)]; exact h.1, fun r z' p q => by
  rw [st_ne (by rcases q with q | q; exact Or.inl q; exact Or.inr (by rcases hz with rfl | rfl | rfl <;> omega))]; exact h.2 r z' p q⟩
theorem fr_.k1 {a b : mt_M} {c : Int} (h : fr_ a b) : fr_ a (k1 b c) := ⟨by rw [k1_at, if_pos ⟨rfl, rfl⟩]; have := h.1; omega, fun r z p q => by
  rw [k1_at, if_neg (by rintro ⟨rfl, rfl⟩; rcases q with q | q; exact q rfl; exact q.2.2.2 rfl), if_neg (by rintro ⟨rfl, rfl⟩; have := h.1; rcases p with p | p; exact p rfl; omega)]
  exact h.2 r z p q⟩
theorem fr_.txt {a b : mt_M} (h : fr_ a b) {z : Int} (hz : z < a 182 9) : b 187 z = a 187 z := h.2 _ _ (Or.inr hz) (Or.inl (by decide))
theorem fr_.slc {a b : mt_M} (h : fr_ a b) {p e : Int} (hz : e ≤ a 182 9) : slc (b 187) p e = slc (a 187) p e := slc_ext (fun i _ h2 => h.txt (by omega))
theorem qtd_34 (l : List Int) : qtd (34 :: l) = some ([], l) := by
  cases l with
  | nil => simp [qtd]
  | cons c t => rw [qtd, if_pos rfl]
theorem qtd_92 (c : Int) (l : List Int) : qtd (92 :: c :: l) = (qtd l).map (fun q => (c :: q.1, q.2)) := by rw [qtd, if_neg (by decide), if_pos rfl]
theorem qtd_1 : qtd [92] = none := by simp [qtd]
theorem qtd_e {b : Int} {l : List Int} (h1 : b ≠ 34) (h2 : b ≠ 92) : qtd (b :: l) = (qtd l).map (fun q => (b :: q.1, q.2)) := by
  cases l with
  | nil => simp [qtd, h1]
  | cons c t => rw [qtd, if_neg h1, if_neg h2]
theorem k1_slc {m : mt_M} {c p : Int} {w : List Int} (hp : p ≤ m 182 9) (h : slc (m 187) p (m 182 9) = w) : slc ((k1 m c) 187) p (m 182 9 + 1) = w ++ [c] := by
  rw [slc_snoc hp, slc_ext (g := m 187), h]
  · congr 1
    rw [k1_at, if_neg (by omega), if_pos ⟨rfl, rfl⟩]
  · intro i _ h2
    rw [k1_at, if_neg (by omega), if_neg (by rintro ⟨_, rfl⟩; omega)]
theorem k1_by {m : mt_M} {c : Int} (h0 : 0 ≤ c ∧ c ≤ 255) (h : by_ (m 187) 0 (m 182 9)) : by_ ((k1 m c) 187) 0 ((k1 m c) 182 9) := by
  intro i i0 i1
  rw [k1_at, if_pos (by decide)] at i1
  rw [k1_at, if_neg (by omega)]
  split
  · exact h0
  · rename_i hn
    exact h i i0 (by
      have : i ≠ m 182 9 := fun z => hn ⟨rfl, z⟩
      omega)
theorem qtd_suf : ∀ (L : List Int) (q : List Int × List Int), qtd L = some q → q.2 <:+ L
  | [], q, h => by simp [qtd] at h
  | [b], q, h => by
    unfold qtd at h
    split at h
    · cases h; exact List.nil_suffix
    · cases h
  | b :: c :: t, q, h => by
    rw [qtd] at h
    split at h
    · cases h; exact List.suffix_cons b _
    · split at h
      · obtain ⟨q', h', rfl⟩ := Option.map_eq_some_iff.mp h
        exact ((qtd_suf t q' h').trans (List.suffix_cons c t)).trans (List.suffix_cons b _)
      · obtain ⟨q', h', rfl⟩ := Option.map_eq_some_iff.mp h
        exact (qtd_suf (c :: t) q' h').trans (List.suffix_cons b _)
theorem cM_quoted {G : mt_G} {l : Launch} {mem : mt_M} {a s : Int} (hs : sc_ mem a s) (hts : s ≤ mem 182 9) (hro : mem 182 9 + (s - a) ≤ 1400) (ha : a < s) (h34 : mem 187 a = 34) (hbt : by_ (mem 187) 0 (mem 182 9)) : CT G l y_M_quoted c_M_quoted 1 (some .boolean) 3 [vr G 182] mem (fun v m' => by_ (m' 187) 0 (m' 182 9) ∧ fr_ mem m' ∧ m' 182 9 ≤ mem 182 9 + (m' 182 13 - a) ∧ a ≤ m' 182 13 ∧ m' 182 13 ≤ s ∧ match qtd (slc (mem 187) (a + 1) s) with
    | none => v = some (vi 0)
    | some q => v = some (vi 1) ∧ m' 182 13 = s - q.2.length ∧ m' 182 15 = mem 182 9 ∧ m' 182 16 = q.1.length ∧ m' 182 9 = mem 182 9 + q.1.length ∧ slc (m' 187) (mem 182 9) (m' 182 9) = q.1) := by
  refine CT.intro (by decide) rfl (Nat.le_of_ble_eq_true rfl) (fun X h he => ?_)
  have hst := hs.2.1
  have hby := hs.2.2.2.2.2
  have hat := hs.1
  have h0 := hs.2.2.1
  generalize hT : mem 182 9 = T at *
  have loop : ∀ (n : Nat) (q : Int) (w : List Int) (m : mt_M), (s - q).toNat = n → a + 1 ≤ q → q ≤ s → fr_ mem m → m 182 13 = q → m 182 15 = T → m 182 9 = T + w.length → (w.length : Int) < q - a → slc (m 187) T (m 182 9) = w → by_ (m 187) 0 (m 182 9) → qtd (slc (mem 187) (a + 1) s) = (qtd (slc (mem 187) q s)).map (fun p => (w ++ p.1, p.2)) → JJ G X 0 0 m 29 [some (vr G 182)] [] := by
    intro n
    induction n using Nat.strongRecOn with
    | ind n ih =>
      intro q w m hn hq hq1 hf m1 m2 m3 hw hsl hbm hc
      have m4 : m 182 14 = s := by rw [hf.2 _ _ (Or.inl (by decide)) (Or.inr (by decide))]; exact hst
      by_cases hqs : q < s
      · have hq3 := hby q (by omega) (by omega)
        have ht : m 187 q = mem 187 q := hf.txt (by omega)
        rw [slc_cons hqs] at hc
        refine jj_aload_n h d_M_quoted_29 rfl ⟨_, rfl⟩ ?_
        refine jj_g_M_at h  fl_M_93 d_M_quoted_30 ?_
        try simp only [st_at, Nat.reduceEqDiff, Int.reduceEq, and_self, true_and, and_true, false_and, and_false, reduceIte, k1_at, m1, m2, m3, m4, ht]
        refine jj_aload_n h d_M_quoted_33 rfl ⟨_, rfl⟩ ?_
        refine jj_g_M_stop h  fl_M_96 d_M_quoted_34 ?_
        try simp only [st_at, Nat.reduceEqDiff, Int.reduceEq, and_self, true_and, and_true, false_and, and_false, reduceIte, k1_at, m1, m2, m3, m4, ht]
        refine jj_icmp_ge h 115 d_M_quoted_37 (by decide) ⟨by omega, by omega⟩ ⟨by omega, by omega⟩ (fun q37 => absurd q37 (by omega)) (fun _ => ?_)
        refine jj_aload_n h d_M_quoted_40 rfl ⟨_, rfl⟩ ?_
        refine jj_g_M_text h  fl_M_22 d_M_quoted_41 ?_
        try simp only [st_at, Nat.reduceEqDiff, Int.reduceEq, and_self, true_and, and_true, false_and, and_false, reduceIte, k1_at, m1, m2, m3, m4, ht]
        refine jj_aload_n h d_M_quoted_44 rfl ⟨_, rfl⟩ ?_
        refine jj_g_M_at h  fl_M_93 d_M_quoted_45 ?_
        try simp only [st_at, Nat.reduceEqDiff, Int.reduceEq, and_self, true_and, and_true, false_and, and_false, reduceIte, k1_at, m1, m2, m3, m4, ht]
        refine jj_iaload (N := 1400) h (by decide) rfl (by decide) (by omega) (by omega) d_M_quoted_48 ?_
        try simp only [st_at, Nat.reduceEqDiff, Int.reduceEq, and_self, true_and, and_true, false_and, and_false, reduceIte, k1_at, m1, m2, m3, m4, ht]
        refine jj_bipush h d_M_quoted_49 (by decide) ?_
        refine jj_icmp_eq h 115 d_M_quoted_51 (by decide) ⟨by omega, by omega⟩ ⟨by omega, by omega⟩ (fun q51 => ?_) (fun q51 => ?_)
        · refine jj_aload_n h d_M_quoted_115 rfl ⟨_, rfl⟩ ?_
          refine jj_aload_n h d_M_quoted_116 rfl ⟨_, rfl⟩ ?_
          refine jj_g_M_textSize h  fl_M_56 d_M_quoted_117 ?_
          try simp only [st_at, Nat.reduceEqDiff, Int.reduceEq, and_self, true_and, and_true, false_and, and_false, reduceIte, k1_at, m1, m2, m3, m4, ht]
          refine jj_aload_n h d_M_quoted_120 rfl ⟨_, rfl⟩ ?_
          refine jj_g_M_wordAt h  fl_M_106 d_M_quoted_121 ?_
          try simp only [st_at, Nat.reduceEqDiff, Int.reduceEq, and_self, true_and, and_true, false_and, and_false, reduceIte, k1_at, m1, m2, m3, m4, ht]
          refine jj_isub h d_M_quoted_124 ?_
          refine jj_p_M_wordSize h  fl_M_112 d_M_quoted_125 ?_
          refine jj_aload_n h d_M_quoted_128 rfl ⟨_, rfl⟩ ?_
          refine jj_g_M_at h  fl_M_93 d_M_quoted_129 ?_
          try simp only [st_at, Nat.reduceEqDiff, Int.reduceEq, and_self, true_and, and_true, false_and, and_false, reduceIte, k1_at, m1, m2, m3, m4, ht]
          refine jj_aload_n h d_M_quoted_132 rfl ⟨_, rfl⟩ ?_
          refine jj_g_M_stop h  fl_M_96 d_M_quoted_133 ?_
          try simp only [st_at, Nat.reduceEqDiff, Int.reduceEq, and_self, true_and, and_true, false_and, and_false, reduceIte, k1_at, m1, m2, m3, m4, ht]
          refine jj_icmp_lt h 141 d_M_quoted_136 (by decide) ⟨by omega, by omega⟩ ⟨by omega, by omega⟩ (fun _ => ?_) (fun q136 => absurd (by omega) q136)
          refine jj_aload_n h d_M_quoted_141 rfl ⟨_, rfl⟩ ?_
          refine jj_dup h d_M_quoted_142 rfl ?_
          refine jj_g_M_at h  fl_M_93 d_M_quoted_143 ?_
          try simp only [st_at, Nat.reduceEqDiff, Int.reduceEq, and_self, true_and, and_true, false_and, and_false, reduceIte, k1_at, m1, m2, m3, m4, ht]
          refine jj_iconst h d_M_quoted_146 ?_
          refine jj_iadd h d_M_quoted_147 ?_
          refine jj_p_M_at h  fl_M_93 d_M_quoted_148 ?_
          refine jj_iconst h d_M_quoted_151 ?_
          refine jj_zret h he (by omega) d_M_quoted_152 ?_
          refine ⟨by rw [st_row (by decide), st_row (by decide), st_ne (by decide), st_ne (by decide)]; exact hbm, (hf.st (by decide)).st (by decide), ?_, ?_, ?_, ?_⟩
          · simp only [st_at, Nat.reduceEqDiff, Int.reduceEq, and_self, and_false, reduceIte]; omega
          · simp only [st_at, and_self, reduceIte]; omega
          · simp only [st_at, and_self, reduceIte]; omega
          · rw [hc, q51, qtd_34]
            simp only [Option.map_some, List.append_nil]
            refine ⟨trivial, ?_, ?_, ?_, ?_, ?_⟩
            · rw [st_same, slc_len]; omega
            · rw [st_ne (by decide), st_ne (by decide)]; exact m2
            · rw [st_ne (by decide), st_same]; omega
            · rw [st_ne (by decide), st_ne (by decide)]; exact m3
            · rw [st_row (by decide), st_row (by decide), st_ne (by decide), st_ne (by decide)]; exact hsl
        · refine jj_aload_n h d_M_quoted_54 rfl ⟨_, rfl⟩ ?_
          refine jj_g_M_text h  fl_M_22 d_M_quoted_55 ?_
          try simp only [st_at, Nat.reduceEqDiff, Int.reduceEq, and_self, true_and, and_true, false_and, and_false, reduceIte, k1_at, m1, m2, m3, m4, ht]
          refine jj_aload_n h d_M_quoted_58 rfl ⟨_, rfl⟩ ?_
          refine jj_g_M_at h  fl_M_93 d_M_quoted_59 ?_
          try simp only [st_at, Nat.reduceEqDiff, Int.reduceEq, and_self, true_and, and_true, false_and, and_false, reduceIte, k1_at, m1, m2, m3, m4, ht]
          refine jj_iaload (N := 1400) h (by decide) rfl (by decide) (by omega) (by omega) d_M_quoted_62 ?_
          try simp only [st_at, Nat.reduceEqDiff, Int.reduceEq, and_self, true_and, and_true, false_and, and_false, reduceIte, k1_at, m1, m2, m3, m4, ht]
          refine jj_bipush h d_M_quoted_63 (by decide) ?_
          refine jj_icmp_ne h 78 d_M_quoted_65 (by decide) ⟨by omega, by omega⟩ ⟨by omega, by omega⟩ (fun q65 => ?_) (fun q65 => ?_)
          · refine jj_aload_n h d_M_quoted_78 rfl ⟨_, rfl⟩ ?_
            refine jj_g_M_at h  fl_M_93 d_M_quoted_79 ?_
            try simp only [st_at, Nat.reduceEqDiff, Int.reduceEq, and_self, true_and, and_true, false_and, and_false, reduceIte, k1_at, m1, m2, m3, m4, ht]
            refine jj_aload_n h d_M_quoted_82 rfl ⟨_, rfl⟩ ?_
            refine jj_g_M_stop h  fl_M_96 d_M_quoted_83 ?_
            try simp only [st_at, Nat.reduceEqDiff, Int.reduceEq, and_self, true_and, and_true, false_and, and_false, reduceIte, k1_at, m1, m2, m3, m4, ht]
            refine jj_icmp_ge h 29 d_M_quoted_86 (by decide) ⟨by omega, by omega⟩ ⟨by omega, by omega⟩ (fun q86 => absurd q86 (by omega)) (fun _ => ?_)
            refine jj_aload_n h d_M_quoted_89 rfl ⟨_, rfl⟩ ?_
            refine jj_aload_n h d_M_quoted_90 rfl ⟨_, rfl⟩ ?_
            refine jj_g_M_text h  fl_M_22 d_M_quoted_91 ?_
            try simp only [st_at, Nat.reduceEqDiff, Int.reduceEq, and_self, true_and, and_true, false_and, and_false, reduceIte, k1_at, m1, m2, m3, m4, ht]
            refine jj_aload_n h d_M_quoted_94 rfl ⟨_, rfl⟩ ?_
            refine jj_g_M_at h  fl_M_93 d_M_quoted_95 ?_
            try simp only [st_at, Nat.reduceEqDiff, Int.reduceEq, and_self, true_and, and_true, false_and, and_false, reduceIte, k1_at, m1, m2, m3, m4, ht]
            refine jj_iaload (N := 1400) h (by decide) rfl (by decide) (by omega) (by omega) d_M_quoted_98 ?_
            try simp only [st_at, Nat.reduceEqDiff, Int.reduceEq, and_self, true_and, and_true, false_and, and_false, reduceIte, k1_at, m1, m2, m3, m4, ht]
            refine jj_callV h (cM_keep (by omega) (by omega)) cv_M_66 (ro_of he (by decide) (by decide)) rfl rfl (by decide) rfl rfl rfl (Nat.le_of_ble_eq_true rfl) d_M_quoted_99 (fun v m99 hv => ?_)
            obtain ⟨rfl, rfl⟩ := hv
            refine jj_aload_n h d_M_quoted_102 rfl ⟨_, rfl⟩ ?_
            refine jj_dup h d_M_quoted_103 rfl ?_
            refine jj_g_M_at h  fl_M_93 d_M_quoted_104 ?_
            try simp only [st_at, Nat.reduceEqDiff, Int.reduceEq, and_self, true_and, and_true, false_and, and_false, reduceIte, k1_at, m1, m2, m3, m4, ht]
            refine jj_iconst h d_M_quoted_107 ?_
            refine jj_iadd h d_M_quoted_108 ?_
            refine jj_p_M_at h  fl_M_93 d_M_quoted_109 ?_
            refine jj_goto h 29 d_M_quoted_112 (by decide) ?_
            refine ih _ (by omega) (q + 1) (w ++ [mem 187 q]) _ rfl (by omega) (by omega) ((hf.k1).st (by decide)) st_same ?_ ?_ ?_ ?_ (by rw [st_row (by decide), st_ne (by decide)]; exact k1_by hq3 hbm) ?_
            · rw [st_ne (by decide), k1_at, if_neg (by decide), if_neg (by omega)]; exact m2
            · rw [st_ne (by decide), k1_at, if_pos (by decide), List.length_append, m3]; simp only [List.length_cons, List.length_nil]; omega
            · rw [List.length_append]; simp only [List.length_cons, List.length_nil]; omega
            · rw [st_ne (by decide), st_row (by decide), k1_at _ _ 182, if_pos (by decide)]; exact k1_slc (by omega) hsl
            · rw [hc, qtd_e q51 q65]; simp [Function.comp_def]
          · refine jj_aload_n h d_M_quoted_68 rfl ⟨_, rfl⟩ ?_
            refine jj_dup h d_M_quoted_69 rfl ?_
            refine jj_g_M_at h  fl_M_93 d_M_quoted_70 ?_
            try simp only [st_at, Nat.reduceEqDiff, Int.reduceEq, and_self, true_and, and_true, false_and, and_false, reduceIte, k1_at, m1, m2, m3, m4, ht]
            refine jj_iconst h d_M_quoted_73 ?_
            refine jj_iadd h d_M_quoted_74 ?_
            refine jj_p_M_at h  fl_M_93 d_M_quoted_75 ?_
            refine jj_aload_n h d_M_quoted_78 rfl ⟨_, rfl⟩ ?_
            refine jj_g_M_at h  fl_M_93 d_M_quoted_79 ?_
            try simp only [st_at, Nat.reduceEqDiff, Int.reduceEq, and_self, true_and, and_true, false_and, and_false, reduceIte, k1_at, m1, m2, m3, m4, ht]
            refine jj_aload_n h d_M_quoted_82 rfl ⟨_, rfl⟩ ?_
            refine jj_g_M_stop h  fl_M_96 d_M_quoted_83 ?_
            try simp only [st_at, Nat.reduceEqDiff, Int.reduceEq, and_self, true_and, and_true, false_and, and_false, reduceIte, k1_at, m1, m2, m3, m4, ht]
            refine jj_icmp_ge h 29 d_M_quoted_86 (by decide) ⟨by omega, by omega⟩ ⟨by omega, by omega⟩ (fun q86 => ?_) (fun q86 => ?_)
            · refine ih _ (by omega) (q + 1) w _ rfl (by omega) (by omega) (hf.st (by decide)) st_same ?_ ?_ (by omega) ?_ (by rw [st_row (by decide), st_ne (by decide)]; exact hbm) ?_
              · rw [st_ne (by decide)]; exact m2
              · rw [st_ne (by decide)]; exact m3
              · rw [st_ne (by decide), st_row (by decide)]; exact hsl
              · rw [hc, q65, slc_nil (by omega : s ≤ q + 1), qtd_1]; rfl
            · have ht2 := hf.txt (z := q + 1) (by omega)
              refine jj_aload_n h d_M_quoted_89 rfl ⟨_, rfl⟩ ?_
              refine jj_aload_n h d_M_quoted_90 rfl ⟨_, rfl⟩ ?_
              refine jj_g_M_text h  fl_M_22 d_M_quoted_91 ?_
              try simp only [st_at, Nat.reduceEqDiff, Int.reduceEq, and_self, true_and, and_true, false_and, and_false, reduceIte, k1_at, m1, m2, m3, m4, ht]
              refine jj_aload_n h d_M_quoted_94 rfl ⟨_, rfl⟩ ?_
              refine jj_g_M_at h  fl_M_93 d_M_quoted_95 ?_
              try simp only [st_at, Nat.reduceEqDiff, Int.reduceEq, and_self, true_and, and_true, false_and, and_false, reduceIte, k1_at, m1, m2, m3, m4, ht]
              refine jj_iaload (N := 1400) h (by decide) rfl (by decide) (by omega) (by omega) d_M_quoted_98 ?_
              try simp only [st_at, Nat.reduceEqDiff, Int.reduceEq, and_self, true_and, and_true, false_and, and_false, reduceIte, m1, m4, ht2]
              refine jj_callV h (cM_keep (by rw [st_ne (by decide)]; omega) (by rw [st_ne (by decide)]; omega)) cv_M_66 (ro_of he (by decide) (by decide)) rfl rfl (by decide) rfl rfl rfl (Nat.le_of_ble_eq_true rfl) d_M_quoted_99 (fun v m99 hv => ?_)
              obtain ⟨rfl, rfl⟩ := hv
              refine jj_aload_n h d_M_quoted_102 rfl ⟨_, rfl⟩ ?_
              refine jj_dup h d_M_quoted_103 rfl ?_
              refine jj_g_M_at h  fl_M_93 d_M_quoted_104 ?_
              try simp only [st_at, Nat.reduceEqDiff, Int.reduceEq, and_self, true_and, and_true, false_and, and_false, reduceIte, k1_at, m1, m2, m3, m4, ht]
              refine jj_iconst h d_M_quoted_107 ?_
              refine jj_iadd h d_M_quoted_108 ?_
              refine jj_p_M_at h  fl_M_93 d_M_quoted_109 ?_
              refine jj_goto h 29 d_M_quoted_112 (by decide) ?_
              have hf2 : fr_ mem (st_ m 182 13 (q + 1)) := hf.st (by decide)
              have e3 : (st_ m 182 13 (q + 1)) 182 9 = T + w.length := by rw [st_ne (by decide)]; exact m3
              refine ih _ (by omega) (q + 1 + 1) (w ++ [mem 187 (q + 1)]) _ rfl (by omega) (by omega) ((hf2.k1).st (by decide)) st_same ?_ ?_ ?_ ?_ (by rw [st_row (by decide), st_ne (by decide)]; exact k1_by (hby (q + 1) (by omega) (by omega)) (by rw [st_row (by decide), st_ne (by decide)]; exact hbm)) ?_
              · rw [st_ne (by decide), k1_at, if_neg (by decide), if_neg (by omega), st_ne (by decide)]; exact m2
              · rw [st_ne (by decide), k1_at, if_pos (by decide), List.length_append, e3]; simp only [List.length_cons, List.length_nil]; omega
              · rw [List.length_append]; simp only [List.length_cons, List.length_nil]; omega
              · rw [st_ne (by decide), st_row (by decide), k1_at _ _ 182, if_pos (by decide)]; exact k1_slc (by omega) (by rw [st_row (by decide), e3, ← m3]; exact hsl)
              · rw [hc, q65, slc_cons (by omega : q + 1 < s), qtd_92]; simp [Function.comp_def]
      · rw [slc_nil (p := q) (by omega)] at hc
        refine jj_aload_n h d_M_quoted_29 rfl ⟨_, rfl⟩ ?_
        refine jj_g_M_at h  fl_M_93 d_M_quoted_30 ?_
        try simp only [st_at, Nat.reduceEqDiff, Int.reduceEq, and_self, true_and, and_true, false_and, and_false, reduceIte, m1, m2, m3, m4]
        refine jj_aload_n h d_M_quoted_33 rfl ⟨_, rfl⟩ ?_
        refine jj_g_M_stop h  fl_M_96 d_M_quoted_34 ?_
        try simp only [st_at, Nat.reduceEqDiff, Int.reduceEq, and_self, true_and, and_true, false_and, and_false, reduceIte, m1, m2, m3, m4]
        refine jj_icmp_ge h 115 d_M_quoted_37 (by decide) ⟨by omega, by omega⟩ ⟨by omega, by omega⟩ (fun _ => ?_) (fun q37 => absurd (by omega) q37)
        refine jj_aload_n h d_M_quoted_115 rfl ⟨_, rfl⟩ ?_
        refine jj_aload_n h d_M_quoted_116 rfl ⟨_, rfl⟩ ?_
        refine jj_g_M_textSize h  fl_M_56 d_M_quoted_117 ?_
        try simp only [st_at, Nat.reduceEqDiff, Int.reduceEq, and_self, true_and, and_true, false_and, and_false, reduceIte, m1, m2, m3, m4]
        refine jj_aload_n h d_M_quoted_120 rfl ⟨_, rfl⟩ ?_
        refine jj_g_M_wordAt h  fl_M_106 d_M_quoted_121 ?_
        try simp only [st_at, Nat.reduceEqDiff, Int.reduceEq, and_self, true_and, and_true, false_and, and_false, reduceIte, m1, m2, m3, m4]
        refine jj_isub h d_M_quoted_124 ?_
        refine jj_p_M_wordSize h  fl_M_112 d_M_quoted_125 ?_
        refine jj_aload_n h d_M_quoted_128 rfl ⟨_, rfl⟩ ?_
        refine jj_g_M_at h  fl_M_93 d_M_quoted_129 ?_
        try simp only [st_at, Nat.reduceEqDiff, Int.reduceEq, and_self, true_and, and_true, false_and, and_false, reduceIte, m1, m2, m3, m4]
        refine jj_aload_n h d_M_quoted_132 rfl ⟨_, rfl⟩ ?_
        refine jj_g_M_stop h  fl_M_96 d_M_quoted_133 ?_
        try simp only [st_at, Nat.reduceEqDiff, Int.reduceEq, and_self, true_and, and_true, false_and, and_false, reduceIte, m1, m2, m3, m4]
        refine jj_icmp_lt h 141 d_M_quoted_136 (by decide) ⟨by omega, by omega⟩ ⟨by omega, by omega⟩ (fun q136 => absurd q136 (by omega)) (fun _ => ?_)
        refine jj_iconst h d_M_quoted_139 ?_
        refine jj_zret h he (by omega) d_M_quoted_140 ?_
        refine ⟨by rw [st_row (by decide), st_ne (by decide)]; exact hbm, hf.st (by decide), ?_, ?_, ?_, ?_⟩
        · rw [st_ne (by decide), st_ne (by decide)]; omega
        · rw [st_ne (by decide)]; omega
        · rw [st_ne (by decide)]; omega
        · rw [hc]; rfl
  refine jj_aload_n h d_M_quoted_0 rfl ⟨_, rfl⟩ ?_
  refine jj_callV h (cM_now2 hs) cv_M_99 (ro_of he (by decide) (by decide)) rfl rfl (by decide) rfl rfl rfl (Nat.le_of_ble_eq_true rfl) d_M_quoted_1 (fun v m1 hv => ?_)
  obtain ⟨rfl, rfl⟩ := hv
  rw [if_pos ha]
  refine jj_bipush h d_M_quoted_4 (by decide) ?_
  refine jj_icmp_eq h 11 d_M_quoted_6 (by decide) ⟨by omega, by omega⟩ ⟨by omega, by omega⟩ (fun _ => ?_) (fun q6 => absurd (by omega) q6)
  refine jj_aload_n h d_M_quoted_11 rfl ⟨_, rfl⟩ ?_
  refine jj_aload_n h d_M_quoted_12 rfl ⟨_, rfl⟩ ?_
  refine jj_g_M_textSize h  fl_M_56 d_M_quoted_13 ?_
  try simp only [st_at, Nat.reduceEqDiff, Int.reduceEq, and_self, true_and, and_true, false_and, and_false, reduceIte, hat]
  refine jj_p_M_wordAt h  fl_M_106 d_M_quoted_16 ?_
  refine jj_aload_n h d_M_quoted_19 rfl ⟨_, rfl⟩ ?_
  refine jj_dup h d_M_quoted_20 rfl ?_
  refine jj_g_M_at h  fl_M_93 d_M_quoted_21 ?_
  try simp only [st_at, Nat.reduceEqDiff, Int.reduceEq, and_self, true_and, and_true, false_and, and_false, reduceIte, hat]
  refine jj_iconst h d_M_quoted_24 ?_
  refine jj_iadd h d_M_quoted_25 ?_
  refine jj_p_M_at h  fl_M_93 d_M_quoted_26 ?_
  refine loop _ (a + 1) [] _ rfl (by omega) (by omega) ((fr_.rf.st (by decide)).st (by decide)) st_same ?_ ?_ ?_ ?_ (by rw [st_row (by decide), st_row (by decide), st_ne (by decide), st_ne (by decide), hT]; exact hbt) ?_
  · rw [st_ne (by decide), st_same]; exact hT
  · rw [st_ne (by decide), st_ne (by decide)]; simp [hT]
  · simp only [List.length_nil]; omega
  · rw [st_ne (by decide), st_ne (by decide), hT]; exact slc_nil (Int.le_refl _)
  · simp
