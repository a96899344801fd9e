/-! The reference: fields(). -/
theorem cM_trimsO {G : mt_G} {l : Launch} {mem : mt_M} {e : Int} {L : List (List Int × List Int)} (h0 : 0 ≤ e) (h1 : e < 16) (ho : opF mem e L) (ht : tb_ mem) : CT G l y_M_trims c_M_trims 6 none 2 [vr G 182, vi e] mem (fun v m' => v = none ∧ repF m' e (tmap L) ∧ fF_ mem e m' ∧ m' 182 9 = mem 182 9 ∧ m' 187 = mem 187) := by
  have hl := ho.2.1
  refine (cM_trims (a0 := mem 186 (4 * (8 * e + (L.length - 1)) + 2)) h0 h1 ho.1 (by omega) (by omega) ht (fun hp => ?_)).mono (fun v m hv => ?_)
  · have hL : L.length - 1 < L.length := by omega
    obtain ⟨-, -, c3⟩ := ho.2.2 (L.length - 1) _ (List.getElem?_eq_getElem hL)
    obtain ⟨d1, d2, -⟩ := c3 (by omega)
    rw [show ((L.length - 1 : Nat) : Int) = (L.length : Int) - 1 by omega] at d1 d2
    exact ⟨rfl, d1, d2⟩
  · obtain ⟨rfl, g1, g2⟩ := hv
    refine ⟨rfl, opF_trim ho g1 g2, ?_⟩
    by_cases hz : (L.length : Int) = 0
    · rw [← g1 hz]; exact ⟨fF_.rf, rfl, rfl⟩
    · obtain ⟨a, n, b1, b2, b3, b4, b5⟩ := g2 (by omega)
      rw [b5]
      exact ⟨(fF_.rf.fld (by omega)).fld (by omega), by rw [st_ne (by omega), st_ne (by omega)], by rw [st_row (by decide), st_row (by decide)]⟩
theorem nameSize_b {f : Int → Int} {p e : Int} (h : p ≤ e) : 0 ≤ nameSize_ f p e ∧ (0 < nameSize_ f p e → p + nameSize_ f p e < e ∧ ¬ bl_ (f p)) := by
  have key : ∀ (n : Nat) (q : Int), (e - q).toNat = n → p ≤ q → q ≤ e → (p < q → ¬ bl_ (f p)) → 0 ≤ ns_ f p e n q ∧ (0 < ns_ f p e n q → p + ns_ f p e n q < e ∧ ¬ bl_ (f p)) := by
    intro n
    induction n with
    | zero => intro q _ _ _ _; simp [ns_]
    | succ n ih =>
      intro q h1 h2 h3 h4
      unfold ns_
      split
      · rename_i hc
        exact ih (q + 1) (by omega) (by omega) (by omega) (fun _ => by
          by_cases hq : p = q
          · subst hq; intro z; rcases z with z | z <;> omega
          · exact h4 (by omega))
      · split
        · refine ⟨by omega, fun z => ⟨by omega, h4 (by omega)⟩⟩
        · simp
  exact key _ p rfl (Int.le_refl _) h (fun z => by omega)
theorem cM_fields {G : mt_G} {l : Launch} {mem : mt_M} {e b s : Int} (h0 : 0 ≤ e) (h1 : e < 16) (hb0 : 0 ≤ b) (hb1 : b ≤ s) (hs : s ≤ 320) (hby : by_ (mem 184) b s) (hn : mem 185 (16 * e + 3) = 0) (ht : tb_ mem) (hro : mem 182 9 + (s - b) ≤ 1400) : CT G l y_M_fields c_M_fields 8 (some .int) 4 [vr G 182, vi e, vi b, vi s] mem (fun v m' => v = some (vi (flds (mem 184) b s).2) ∧ repF m' e (flds (mem 184) b s).1 ∧ fF_ mem e m' ∧ tb_ m' ∧ m' 182 9 ≤ mem 182 9 + ((flds (mem 184) b s).2 - b) ∧ b ≤ (flds (mem 184) b s).2 ∧ (flds (mem 184) b s).2 ≤ s) := by
  refine CT.intro (by decide) rfl (Nat.le_of_ble_eq_true rfl) (fun X h he => ?_)
  have ht0 := ht.1
  have hflds : flds (mem 184) b s = (tmap (fl1 (mem 184) s ((s - b).toNat + 1) b []).1, (fl1 (mem 184) s ((s - b).toNat + 1) b []).2) := rfl
  rw [hflds] at he
  generalize hR : fl1 (mem 184) s ((s - b).toNat + 1) b [] = R at *
  have fin : ∀ (m m2 : mt_M) (p : Int) (acc : List (List Int × List Int)), R = (acc, p) → b ≤ p → p ≤ s → fF_ mem e m → tb_ m → m 182 9 ≤ mem 182 9 + (p - b) → repF m2 e (tmap acc) → fF_ m e m2 → m2 182 9 = m 182 9 → m2 187 = m 187 → (some (vi p) = some (vi R.2) ∧ repF m2 e (tmap R.1) ∧ fF_ mem e m2 ∧ tb_ m2 ∧ m2 182 9 ≤ mem 182 9 + (R.2 - b) ∧ b ≤ R.2 ∧ R.2 ≤ s) := by
    intro m m2 p acc hr g1 g2 g3 g4 g5 g6 g7 g8 g9
    rw [hr]
    exact ⟨rfl, g6, g3.trans g7, ⟨by rw [g8]; exact g4.1, by rw [g8]; exact g4.2.1, by rw [g8, g9]; exact g4.2.2⟩, by rw [g8]; exact g5, g1, g2⟩
  have loop : ∀ (n : Nat) (p : Int) (m : mt_M) (acc : List (List Int × List Int)) (k : Nat) (x y z : Option Value), (s - p).toNat = n → b ≤ p → p ≤ s → (s - p).toNat + 1 ≤ k → opF m e acc → fF_ mem e m → tb_ m → m 182 9 ≤ mem 182 9 + (p - b) → R = fl1 (mem 184) s k p acc → JJ G X 0 0 m 3 [some (vr G 182), some (vi e), some (vi b), some (vi s), some (vi p), x, y, z] [] := by
    intro n
    induction n using Nat.strongRecOn with
    | ind n ih =>
      intro p m acc k x y z hn hp hps hk ho hF htm hTm hRe
      have hsrc := hF.src
      obtain ⟨k, rfl⟩ : ∃ k', k = k' + 1 := ⟨k - 1, by omega⟩
      rw [fl1] at hRe
      by_cases hpe : s ≤ p
      · rw [if_pos hpe] at hRe
        have hps2 : p = s := by omega
        subst hps2
        refine jj_iload h d_M_fields_3 rfl ?_
        refine jj_iload_n h d_M_fields_5 rfl ?_
        refine jj_icmp_ge h 156 d_M_fields_6 (by decide) ⟨by omega, by omega⟩ ⟨by omega, by omega⟩ (fun _ => ?_) (fun q6 => absurd (by omega) q6)
        refine jj_aload_n h d_M_fields_156 rfl ⟨_, rfl⟩ ?_
        refine jj_iload_n h d_M_fields_157 rfl ?_
        refine jj_callV h (cM_trimsO h0 h1 ho htm) cv_M_77 (ro_of he (by decide) (by decide)) rfl rfl (by decide) rfl rfl rfl (Nat.le_of_ble_eq_true rfl) d_M_fields_158 (fun v m158 hv => ?_)
        obtain ⟨rfl, q1, q2, q3, q4⟩ := hv
        refine jj_iload_n h d_M_fields_161 rfl ?_
        refine jj_iret h he d_M_fields_162 ?_
        exact fin m m158 p acc hRe hp (Int.le_refl _) hF htm hTm q1 q2 q3 q4
      · rw [if_neg hpe] at hRe
        have hle := lineEnd_b (f := mem 184) (e := s) _ p rfl (by omega)
        have hte := textEnd_b (f := mem 184) (p := p) (e := s) (by omega)
        have hbm : by_ (m 184) p s := by rw [hsrc]; exact hby.sub hp (Int.le_refl _)
        have hbp := hby p hp (by omega)
        have hml := htm.1
        generalize hE : lineEnd_ (mem 184) p s = E at *
        generalize hTE : textEnd_ (mem 184) p s = TE at *
        have hns := nameSize_b (f := mem 184) (p := p) (e := TE) (by omega)
        generalize hN : nameSize_ (mem 184) p TE = N at *
        have haccl := ho.2.1
        have haccd := ho.1
        have nxt : ∀ (m' : mt_M) (acc' : List (List Int × List Int)) (x y z : Option Value), opF m' e acc' → fF_ mem e m' → tb_ m' → m' 182 9 ≤ mem 182 9 + (E - b) → R = fl1 (mem 184) s k E acc' → JJ G X 0 0 m' 144 [some (vr G 182), some (vi e), some (vi b), some (vi s), some (vi p), x, y, z] [] := by
          intro m' acc' x y z n1 n2 n3 n4 n5
          have hs3 := n2.src
          refine jj_aload_n h d_M_fields_144 rfl ⟨_, rfl⟩ ?_
          refine jj_iload h d_M_fields_145 rfl ?_
          refine jj_iload_n h d_M_fields_147 rfl ?_
          refine jj_callV h (cM_lineEnd (by omega) (by omega) hs (by rw [hs3, ← hsrc]; exact hbm)) cv_M_52 (ro_of he (by decide) (by decide)) rfl rfl (by decide) rfl rfl rfl (Nat.le_of_ble_eq_true rfl) d_M_fields_148 (fun v m148 hv => ?_)
          obtain ⟨rfl, rfl⟩ := hv
          rw [hs3, hE]
          refine jj_istore h d_M_fields_151 (Nat.le_of_ble_eq_true rfl) rfl ?_
          refine jj_goto h 3 d_M_fields_153 (by decide) ?_
          exact ih _ (by omega) E m' acc' k _ _ _ rfl (by omega) (by omega) (by omega) n1 n2 n3 n4 n5
        have cnt : ∀ (x : Option Value), TE ≠ p → (R = if bl_ (mem 184 p) ∧ acc ≠ [] then fl1 (mem 184) s k E (apl acc (slc (mem 184) p TE)) else (acc, p)) → JJ G X 0 0 m 83 [some (vr G 182), some (vi e), some (vi b), some (vi s), some (vi p), some (vi TE), some (vi N), x] [] := by
          intro x hTp hRc
          have lp : ∀ (j : Nat) (q : Int) (m' : mt_M), (TE - q).toNat = j → p ≤ q → q ≤ TE → ap_ m (slc (mem 184) p q) m' → bl_ (mem 184 p) ∧ acc ≠ [] → JJ G X 0 0 m' 109 [some (vr G 182), some (vi e), some (vi b), some (vi s), some (vi p), some (vi TE), some (vi N), some (vi q)] [] := by
            intro j
            induction j with
            | zero =>
              intro q m' j1 j2 j3 j4 j5
              have hq : q = TE := by omega
              subst hq
              rw [if_pos j5] at hRc
              have e1 := j4.1
              rw [slc_len] at e1
              refine jj_iload h d_M_fields_109 rfl ?_
              refine jj_iload h d_M_fields_111 rfl ?_
              refine jj_icmp_ge h 133 d_M_fields_113 (by decide) ⟨by omega, by omega⟩ ⟨by omega, by omega⟩ (fun _ => ?_) (fun q113 => absurd (by omega) q113)
              refine jj_goto h 144 d_M_fields_133 (by decide) ?_
              refine nxt m' _ _ _ _ (opF_cont ho j4) (hF.ap j4) ⟨by omega, by omega, j4.by hml htm.2.2 (fun c hc => ?_)⟩ (by omega) hRc
              rw [← hsrc] at hc
              obtain ⟨i, hi, rfl⟩ := List.getElem_of_mem hc
              rw [slc_len] at hi
              have := slc_get (f := m 184) (p := p) (e := q) (i := i) (by omega) (by omega)
              rw [show ((i : Int)).toNat = i from rfl, List.getElem?_eq_getElem (by rw [slc_len]; omega)] at this
              rw [Option.some.inj this]
              exact hbm _ (by omega) (by omega)
            | succ j ihj =>
              intro q m' j1 j2 j3 j4 j5
              have e1 := j4.1
              rw [slc_len] at e1
              have hs4 : m' 184 = mem 184 := (j4.row (by decide) (by decide)).trans hsrc
              refine jj_iload h d_M_fields_109 rfl ?_
              refine jj_iload h d_M_fields_111 rfl ?_
              refine jj_icmp_ge h 133 d_M_fields_113 (by decide) ⟨by omega, by omega⟩ ⟨by omega, by omega⟩ (fun q113 => absurd q113 (by omega)) (fun _ => ?_)
              refine jj_aload_n h d_M_fields_116 rfl ⟨_, rfl⟩ ?_
              refine jj_aload_n h d_M_fields_117 rfl ⟨_, rfl⟩ ?_
              refine jj_g_M_src h  fl_M_13 d_M_fields_118 ?_
              try simp only [hs4]
              refine jj_iload h d_M_fields_121 rfl ?_
              refine jj_iaload (N := 320) h (by decide) rfl (by decide) (by omega) (by omega) d_M_fields_123 ?_
              try simp only [hs4]
              refine jj_callV h (cM_keep (by omega) (by omega)) cv_M_66 (ro_of he (by decide) (by decide)) rfl rfl (by decide) rfl rfl rfl (Nat.le_of_ble_eq_true rfl) d_M_fields_124 (fun v m124 hv => ?_)
              obtain ⟨rfl, rfl⟩ := hv
              refine jj_iinc h d_M_fields_127 rfl rfl ?_
              refine jj_goto h 109 d_M_fields_130 (by decide) ?_
              exact ihj (q + 1) _ (by omega) (by omega) (by omega) (by rw [slc_snoc j2]; exact j4.k1 _) j5
          have stp : ¬ (bl_ (mem 184 p) ∧ acc ≠ []) → ∀ x, JJ G X 0 0 m 136 [some (vr G 182), some (vi e), some (vi b), some (vi s), some (vi p), some (vi TE), some (vi N), x] [] := by
            intro hno x
            rw [if_neg hno] at hRc
            refine jj_aload_n h d_M_fields_136 rfl ⟨_, rfl⟩ ?_
            refine jj_iload_n h d_M_fields_137 rfl ?_
            refine jj_callV h (cM_trimsO h0 h1 ho htm) cv_M_77 (ro_of he (by decide) (by decide)) rfl rfl (by decide) rfl rfl rfl (Nat.le_of_ble_eq_true rfl) d_M_fields_138 (fun v m138 hv => ?_)
            obtain ⟨rfl, q1, q2, q3, q4⟩ := hv
            refine jj_iload h d_M_fields_141 rfl ?_
            refine jj_iret h he d_M_fields_143 ?_
            exact fin m m138 p acc hRc hp (by omega) hF htm hTm q1 q2 q3 q4
          refine jj_aload_n h d_M_fields_83 rfl ⟨_, rfl⟩ ?_
          refine jj_g_M_src h  fl_M_13 d_M_fields_84 ?_
          try simp only [hsrc]
          refine jj_iload h d_M_fields_87 rfl ?_
          refine jj_iaload (N := 320) h (by decide) rfl (by decide) (by omega) (by omega) d_M_fields_89 ?_
          try simp only [hsrc]
          refine jj_callS h (cM_isBlank ⟨by omega, by omega⟩) cv_M_62 (ro_of he (by decide) (by decide)) rfl rfl rfl (Nat.le_of_ble_eq_true rfl) d_M_fields_90 (fun v m90 hv => ?_)
          obtain ⟨rfl, rfl⟩ := hv
          refine jj_if_eq h 136 d_M_fields_93 (by decide) ⟨by split <;> omega, by split <;> omega⟩ (fun q93 => ?_) (fun q93 => ?_)
          · have q93 : ¬ bl_ (mem 184 p) := fun z => by rw [if_pos z] at q93; omega
            exact stp (fun z => q93 z.1) _
          · have q93 : bl_ (mem 184 p) := Decidable.byContradiction fun z => q93 (by rw [if_neg z])
            refine jj_aload_n h d_M_fields_96 rfl ⟨_, rfl⟩ ?_
            refine jj_iload_n h d_M_fields_97 rfl ?_
            refine jj_iconst h d_M_fields_98 ?_
            refine jj_callV h (cM_of (by omega) (by omega)) cv_M_59 (ro_of he (by decide) (by decide)) rfl rfl (by decide) rfl rfl rfl (Nat.le_of_ble_eq_true rfl) d_M_fields_99 (fun v m99 hv => ?_)
            obtain ⟨rfl, rfl⟩ := hv
            rw [haccd]
            refine jj_if_le h 136 d_M_fields_102 (by decide) ⟨by omega, by omega⟩ (fun q102 => ?_) (fun q102 => ?_)
            · exact stp (fun z => z.2 (List.length_eq_zero_iff.mp (by omega))) _
            · refine jj_iload h d_M_fields_105 rfl ?_
              refine jj_istore h d_M_fields_107 (Nat.le_of_ble_eq_true rfl) rfl ?_
              exact lp _ p m rfl (by omega) (by omega) (by rw [slc_nil (Int.le_refl _)]; exact ap_.rf) ⟨q93, fun z => by rw [z] at q102; simp at q102⟩
        refine jj_iload h d_M_fields_3 rfl ?_
        refine jj_iload_n h d_M_fields_5 rfl ?_
        refine jj_icmp_ge h 156 d_M_fields_6 (by decide) ⟨by omega, by omega⟩ ⟨by omega, by omega⟩ (fun q6 => absurd q6 (by omega)) (fun _ => ?_)
        refine jj_aload_n h d_M_fields_9 rfl ⟨_, rfl⟩ ?_
        refine jj_iload h d_M_fields_10 rfl ?_
        refine jj_iload_n h d_M_fields_12 rfl ?_
        refine jj_callV h (cM_textEnd (by omega) (by omega) hs hbm) cv_M_74 (ro_of he (by decide) (by decide)) rfl rfl (by decide) rfl rfl rfl (Nat.le_of_ble_eq_true rfl) d_M_fields_13 (fun v m13 hv => ?_)
        obtain ⟨rfl, rfl⟩ := hv
        rw [hsrc, hTE]
        refine jj_istore h d_M_fields_16 (Nat.le_of_ble_eq_true rfl) rfl ?_
        refine jj_iload h d_M_fields_18 rfl ?_
        refine jj_iload h d_M_fields_20 rfl ?_
        refine jj_icmp_ne h 38 d_M_fields_22 (by decide) ⟨by omega, by omega⟩ ⟨by omega, by omega⟩ (fun q22 => ?_) (fun q22 => ?_)
        · rw [if_neg q22] at hRe
          refine jj_aload_n h d_M_fields_38 rfl ⟨_, rfl⟩ ?_
          refine jj_iload h d_M_fields_39 rfl ?_
          refine jj_iload h d_M_fields_41 rfl ?_
          refine jj_callV h (cM_nameSize (by omega) (by omega) (by omega) (hbm.sub (by omega) (by omega))) cv_M_80 (ro_of he (by decide) (by decide)) rfl rfl (by decide) rfl rfl rfl (Nat.le_of_ble_eq_true rfl) d_M_fields_43 (fun v m43 hv => ?_)
          obtain ⟨rfl, rfl⟩ := hv
          rw [hsrc, hN]
          refine jj_istore h d_M_fields_46 (Nat.le_of_ble_eq_true rfl) rfl ?_
          refine jj_iload h d_M_fields_48 rfl ?_
          refine jj_if_le h 83 d_M_fields_50 (by decide) ⟨by omega, by omega⟩ (fun q50 => ?_) (fun q50 => ?_)
          · rw [if_neg (fun z => by omega)] at hRe
            exact cnt _ q22 hRe
          · refine jj_aload_n h d_M_fields_53 rfl ⟨_, rfl⟩ ?_
            refine jj_iload_n h d_M_fields_54 rfl ?_
            refine jj_iconst h d_M_fields_55 ?_
            refine jj_callV h (cM_of (by omega) (by omega)) cv_M_59 (ro_of he (by decide) (by decide)) rfl rfl (by decide) rfl rfl rfl (Nat.le_of_ble_eq_true rfl) d_M_fields_56 (fun v m56 hv => ?_)
            obtain ⟨rfl, rfl⟩ := hv
            rw [haccd]
            refine jj_bipush h d_M_fields_59 (by decide) ?_
            refine jj_icmp_ge h 83 d_M_fields_61 (by decide) ⟨by omega, by omega⟩ ⟨by omega, by omega⟩ (fun q61 => ?_) (fun q61 => ?_)
            · rw [if_neg (fun z => by omega)] at hRe
              exact cnt _ q22 hRe
            · refine jj_aload_n h d_M_fields_64 rfl ⟨_, rfl⟩ ?_
              refine jj_iload_n h d_M_fields_65 rfl ?_
              refine jj_callV h (cM_trimsO h0 h1 ho htm) cv_M_77 (ro_of he (by decide) (by decide)) rfl rfl (by decide) rfl rfl rfl (Nat.le_of_ble_eq_true rfl) d_M_fields_66 (fun v m66 hv => ?_)
              obtain ⟨rfl, q1, q2, q3, q4⟩ := hv
              rw [if_pos (by omega)] at hRe
              have hs66 : m66 184 = mem 184 := q2.src.trans hsrc
              have hnn := hns.2 (by omega)
              have d66 : m66 185 (16 * e + 3) = acc.length := by rw [q1.1]; unfold tmap; rw [List.length_map]
              refine jj_aload_n h d_M_fields_69 rfl ⟨_, rfl⟩ ?_
              refine jj_iload_n h d_M_fields_70 rfl ?_
              refine jj_iload h d_M_fields_71 rfl ?_
              refine jj_iload h d_M_fields_73 rfl ?_
              refine jj_iload h d_M_fields_75 rfl ?_
              refine jj_callV h (cM_begins h0 h1 d66 (by omega) (by omega) (by omega) (by omega) hnn.1 (by omega) (by rw [hs66, ← hsrc]; exact hbm.sub (by omega) (by omega)) (by omega) (by omega)) cv_M_83 (ro_of he (by decide) (by decide)) rfl rfl (by decide) rfl rfl rfl (Nat.le_of_ble_eq_true rfl) d_M_fields_77 (fun v m77 hv => ?_)
              obtain ⟨rfl, m2, m4, a2, a4, rfl⟩ := hv
              rw [hs66] at a2 a4
              have e2 := a2.1
              have e4 := a4.1
              rw [st_ne (by omega), st_ne (by omega), slc_len] at e2
              rw [st_ne (by omega), slc_len] at e4
              refine jj_goto h 144 d_M_fields_80 (by decide) ?_
              refine nxt _ (acc ++ [(slc (mem 184) p (p + N), slc (mem 184) (p + N + 1) TE)]) _ _ _ (opF_begin q1 (by omega) (by omega) (by rw [slc_len]; omega) a2 a4 rfl) ?_ ⟨by rw [st_ne (by omega)]; omega, by rw [st_ne (by omega)]; omega, ?_⟩ (by rw [st_ne (by omega)]; omega) hRe
              · have f1 : fF_ mem e (st_ (st_ m66 186 (4 * (8 * e + (acc.length : Int))) (m66 182 9)) 186 (4 * (8 * e + (acc.length : Int)) + 1) N) := ((hF.trans q2).fld (by omega)).fld (by omega)
                exact (((f1.ap a2).fld (by omega)).ap a4).dat
              · rw [st_row (by decide), st_ne (by omega)]
                have bs : ∀ (u v : Int), p ≤ u → v ≤ TE → ∀ c ∈ slc (mem 184) u v, 0 ≤ c ∧ c ≤ 255 := by
                  intro u v hu hv c hc
                  rw [← hsrc] at hc
                  obtain ⟨i, hi, rfl⟩ := List.getElem_of_mem hc
                  rw [slc_len] at hi
                  have := slc_get (f := m 184) (p := u) (e := v) (i := i) (by omega) (by omega)
                  rw [show ((i : Int)).toNat = i from rfl, List.getElem?_eq_getElem (by rw [slc_len]; omega)] at this
                  rw [Option.some.inj this]
                  exact hbm _ (by omega) (by omega)
                have b2 : by_ (m2 187) 0 (m2 182 9) := a2.by (by rw [st_ne (by omega), st_ne (by omega)]; omega) (by rw [st_row (by decide), st_row (by decide), st_ne (by omega), st_ne (by omega), q3, q4]; exact htm.2.2) (bs _ _ (Int.le_refl _) (by omega))
                exact a4.by (by rw [st_ne (by omega)]; omega) (by rw [st_row (by decide), st_ne (by omega)]; exact b2) (bs _ _ (by omega) (Int.le_refl _))
        · refine jj_aload_n h d_M_fields_25 rfl ⟨_, rfl⟩ ?_
          refine jj_iload_n h d_M_fields_26 rfl ?_
          refine jj_callV h (cM_trimsO h0 h1 ho htm) cv_M_77 (ro_of he (by decide) (by decide)) rfl rfl (by decide) rfl rfl rfl (Nat.le_of_ble_eq_true rfl) d_M_fields_27 (fun v m27 hv => ?_)
          obtain ⟨rfl, q1, q2, q3, q4⟩ := hv
          have hs27 : m27 184 = mem 184 := q2.src.trans hsrc
          refine jj_aload_n h d_M_fields_30 rfl ⟨_, rfl⟩ ?_
          refine jj_iload h d_M_fields_31 rfl ?_
          refine jj_iload_n h d_M_fields_33 rfl ?_
          refine jj_callV h (cM_lineEnd (by omega) (by omega) hs (by rw [hs27, ← hsrc]; exact hbm)) cv_M_52 (ro_of he (by decide) (by decide)) rfl rfl (by decide) rfl rfl rfl (Nat.le_of_ble_eq_true rfl) d_M_fields_34 (fun v m34 hv => ?_)
          obtain ⟨rfl, rfl⟩ := hv
          rw [hs27, hE]
          refine jj_iret h he d_M_fields_37 ?_
          rw [if_pos q22] at hRe
          exact fin m m27 E acc hRe (by omega) (by omega) hF htm (by omega) q1 q2 q3 q4
  refine jj_iload_n h d_M_fields_0 rfl ?_
  refine jj_istore h d_M_fields_1 (Nat.le_of_ble_eq_true rfl) rfl ?_
  exact loop _ b mem [] _ none none none rfl (by omega) hb1 (Nat.le_refl _) ⟨hn, by simp, fun f q hq => by simp at hq⟩ fF_.rf ht (by omega) hR.symm
