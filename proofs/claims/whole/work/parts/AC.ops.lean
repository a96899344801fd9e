/-! The law's operations: both sides answer the same, and the invariant stays. -/
theorem lg_eq (a : Int) : Value.int (lg_cmp (Int64.ofInt a) (Int64.ofInt a)) = vi 0 := by
  unfold lg_cmp vi
  rw [if_neg (by simp), if_pos rfl]
  rfl
theorem lw_op0 {G : mt_G} {X : mt_X} {own : String} {b N k n : Nat} {xs : Nat → Int32} {mem : mt_M} {i : Int} {a5 a6 : Option Value} (h : OK G X c_L_law own 7) (hown : own = R_L) (he : OL G X b N xs) (hN : N ≤ 2560) (hI : IV mem) (i0 : 0 ≤ i) (i5 : i + 5 ≤ N) (hk : k + 1 ≤ 601024) (hn : n + 6 ≤ 7293034)
    (kk : ∀ (k' n' : Nat) (m' : mt_M) (b5 b6 : Option Value), k' ≤ k + 1 → n' ≤ n + 6 → IV m' → JJ G X k' n' m' 666 [some (.ref b), some (vr G 0), some (vr G 182), some (vr G 194), some (vi i), b5, b6] []) : JJ G X k n mem 100 [some (.ref b), some (vr G 0), some (vr G 182), some (vr G 194), some (vi i), a5, a6] [] := by
  subst hown
  have hM := hI.1
  have hs0 := hM.1.2.1
  have hs1 : mem 1 1 ≤ 320 := hM.1.2.2.1
  by_cases ho : fdOk (mem 1 1) (sq9_ xs (i + 3))
  · have e1 : bL_ mem 1 (bts (lor_ (lshl_ (i2l_ (sq9_ xs (i + 1))) 32) (land_ (i2l_ (sq9_ xs (i + 2))) 4294967295)) (sq9_ xs (i + 3))) 182 1 = mem 1 1 := by rw [bL_row (by decide) (by decide)]; exact hM.2.1
    refine jj_aload_n h d_L_law_100 rfl ⟨_, rfl⟩ ?_
    refine jj_aload_n h d_L_law_101 rfl ⟨_, rfl⟩ ?_
    refine jj_iload h d_L_law_102 rfl ?_
    refine jj_iconst h d_L_law_104 ?_
    refine jj_iadd h d_L_law_105 ?_
    refine jj_sc h he hN (by omega) (by omega) d_L_law_106 ?_
    refine jj_i2l h d_L_law_107 ?_
    refine jj_bipush h d_L_law_108 (by decide) ?_
    refine jj_lshl h d_L_law_110 ?_
    refine jj_aload_n h d_L_law_111 rfl ⟨_, rfl⟩ ?_
    refine jj_iload h d_L_law_112 rfl ?_
    refine jj_iconst h d_L_law_114 ?_
    refine jj_iadd h d_L_law_115 ?_
    refine jj_sc h he hN (by omega) (by omega) d_L_law_116 ?_
    refine jj_i2l h d_L_law_117 ?_
    refine jj_ldc2 h (4294967295) d_L_law_118 wk_L_43 ?_
    refine jj_land h d_L_law_121 ?_
    refine jj_lor h d_L_law_122 ?_
    refine jj_aload_n h d_L_law_123 rfl ⟨_, rfl⟩ ?_
    refine jj_iload h d_L_law_124 rfl ?_
    refine jj_iconst h d_L_law_126 ?_
    refine jj_iadd h d_L_law_127 ?_
    refine jj_sc h he hN (by omega) (by omega) d_L_law_128 ?_
    refine jj_callV h (cX_feed hs0 hs1 (sq9_r xs (i + 3))) cv_L_45 (ro_oL he (by decide) (by decide) (by omega) (by omega)) rfl rfl (by decide) rfl rfl rfl (Nat.le_of_ble_eq_true rfl) d_L_law_129 (fun v m129 hv => ?_)
    obtain ⟨rfl, rfl⟩ := hv.1 ho
    refine jj_aload_n h d_L_law_132 rfl ⟨_, rfl⟩ ?_
    refine jj_aload_n h d_L_law_133 rfl ⟨_, rfl⟩ ?_
    refine jj_iload h d_L_law_134 rfl ?_
    refine jj_iconst h d_L_law_136 ?_
    refine jj_iadd h d_L_law_137 ?_
    refine jj_sc h he hN (by omega) (by omega) d_L_law_138 ?_
    refine jj_i2l h d_L_law_139 ?_
    refine jj_bipush h d_L_law_140 (by decide) ?_
    refine jj_lshl h d_L_law_142 ?_
    refine jj_aload_n h d_L_law_143 rfl ⟨_, rfl⟩ ?_
    refine jj_iload h d_L_law_144 rfl ?_
    refine jj_iconst h d_L_law_146 ?_
    refine jj_iadd h d_L_law_147 ?_
    refine jj_sc h he hN (by omega) (by omega) d_L_law_148 ?_
    refine jj_i2l h d_L_law_149 ?_
    refine jj_ldc2 h (4294967295) d_L_law_150 wk_L_43 ?_
    refine jj_land h d_L_law_153 ?_
    refine jj_lor h d_L_law_154 ?_
    refine jj_aload_n h d_L_law_155 rfl ⟨_, rfl⟩ ?_
    refine jj_iload h d_L_law_156 rfl ?_
    refine jj_iconst h d_L_law_158 ?_
    refine jj_iadd h d_L_law_159 ?_
    refine jj_sc h he hN (by omega) (by omega) d_L_law_160 ?_
    refine jj_callV h (cM_feed (by rw [e1]; exact hs0) (by rw [e1]; exact hs1) (sq9_r xs (i + 3))) cv_L_49 (ro_oL he (by decide) (by decide) (by omega) (by omega)) rfl rfl (by decide) rfl rfl rfl (Nat.le_of_ble_eq_true rfl) d_L_law_161 (fun v m161 hv => ?_)
    rw [e1] at hv
    obtain ⟨rfl, rfl⟩ := hv.1 ho
    refine jj_icmp_eq h 666 d_L_law_164 (by decide) ⟨by decide, by decide⟩ ⟨by decide, by decide⟩ (fun _ => ?_) (fun q164 => absurd (rfl) q164)
    exact kk _ _ _ _ _ (by omega) (by omega) (hI.feed ho)
  · refine jj_aload_n h d_L_law_100 rfl ⟨_, rfl⟩ ?_
    refine jj_aload_n h d_L_law_101 rfl ⟨_, rfl⟩ ?_
    refine jj_iload h d_L_law_102 rfl ?_
    refine jj_iconst h d_L_law_104 ?_
    refine jj_iadd h d_L_law_105 ?_
    refine jj_sc h he hN (by omega) (by omega) d_L_law_106 ?_
    refine jj_i2l h d_L_law_107 ?_
    refine jj_bipush h d_L_law_108 (by decide) ?_
    refine jj_lshl h d_L_law_110 ?_
    refine jj_aload_n h d_L_law_111 rfl ⟨_, rfl⟩ ?_
    refine jj_iload h d_L_law_112 rfl ?_
    refine jj_iconst h d_L_law_114 ?_
    refine jj_iadd h d_L_law_115 ?_
    refine jj_sc h he hN (by omega) (by omega) d_L_law_116 ?_
    refine jj_i2l h d_L_law_117 ?_
    refine jj_ldc2 h (4294967295) d_L_law_118 wk_L_43 ?_
    refine jj_land h d_L_law_121 ?_
    refine jj_lor h d_L_law_122 ?_
    refine jj_aload_n h d_L_law_123 rfl ⟨_, rfl⟩ ?_
    refine jj_iload h d_L_law_124 rfl ?_
    refine jj_iconst h d_L_law_126 ?_
    refine jj_iadd h d_L_law_127 ?_
    refine jj_sc h he hN (by omega) (by omega) d_L_law_128 ?_
    refine jj_callV h (cX_feed hs0 hs1 (sq9_r xs (i + 3))) cv_L_45 (ro_oL he (by decide) (by decide) (by omega) (by omega)) rfl rfl (by decide) rfl rfl rfl (Nat.le_of_ble_eq_true rfl) d_L_law_129 (fun v m129 hv => ?_)
    obtain ⟨rfl, rfl⟩ := hv.2 ho
    refine jj_aload_n h d_L_law_132 rfl ⟨_, rfl⟩ ?_
    refine jj_aload_n h d_L_law_133 rfl ⟨_, rfl⟩ ?_
    refine jj_iload h d_L_law_134 rfl ?_
    refine jj_iconst h d_L_law_136 ?_
    refine jj_iadd h d_L_law_137 ?_
    refine jj_sc h he hN (by omega) (by omega) d_L_law_138 ?_
    refine jj_i2l h d_L_law_139 ?_
    refine jj_bipush h d_L_law_140 (by decide) ?_
    refine jj_lshl h d_L_law_142 ?_
    refine jj_aload_n h d_L_law_143 rfl ⟨_, rfl⟩ ?_
    refine jj_iload h d_L_law_144 rfl ?_
    refine jj_iconst h d_L_law_146 ?_
    refine jj_iadd h d_L_law_147 ?_
    refine jj_sc h he hN (by omega) (by omega) d_L_law_148 ?_
    refine jj_i2l h d_L_law_149 ?_
    refine jj_ldc2 h (4294967295) d_L_law_150 wk_L_43 ?_
    refine jj_land h d_L_law_153 ?_
    refine jj_lor h d_L_law_154 ?_
    refine jj_aload_n h d_L_law_155 rfl ⟨_, rfl⟩ ?_
    refine jj_iload h d_L_law_156 rfl ?_
    refine jj_iconst h d_L_law_158 ?_
    refine jj_iadd h d_L_law_159 ?_
    refine jj_sc h he hN (by omega) (by omega) d_L_law_160 ?_
    refine jj_callV h (cM_feed (by rw [hM.2.1]; exact hs0) (by rw [hM.2.1]; exact hs1) (sq9_r xs (i + 3))) cv_L_49 (ro_oL he (by decide) (by decide) (by omega) (by omega)) rfl rfl (by decide) rfl rfl rfl (Nat.le_of_ble_eq_true rfl) d_L_law_161 (fun v m161 hv => ?_)
    rw [hM.2.1] at hv
    obtain ⟨rfl, rfl⟩ := hv.2 ho
    refine jj_icmp_eq h 666 d_L_law_164 (by decide) ⟨by decide, by decide⟩ ⟨by decide, by decide⟩ (fun _ => ?_) (fun q164 => absurd (rfl) q164)
    exact kk _ _ _ _ _ (by omega) (by omega) (hI.th 0)
theorem lw_op1 {G : mt_G} {X : mt_X} {own : String} {b N k n : Nat} {xs : Nat → Int32} {mem : mt_M} {i : Int} {a5 a6 : Option Value} (h : OK G X c_L_law own 7) (hown : own = R_L) (he : OL G X b N xs) (hN : N ≤ 2560) (hI : IV mem) (i0 : 0 ≤ i) (i5 : i + 5 ≤ N) (hk : k + 1 ≤ 601024) (hn : n + 6 ≤ 7293034)
    (kk : ∀ (k' n' : Nat) (m' : mt_M) (b5 b6 : Option Value), k' ≤ k + 1 → n' ≤ n + 6 → IV m' → JJ G X k' n' m' 666 [some (.ref b), some (vr G 0), some (vr G 182), some (vr G 194), some (vi i), b5, b6] []) : JJ G X k n mem 169 [some (.ref b), some (vr G 0), some (vr G 182), some (vr G 194), some (vi i), a5, a6] [] := by
  subst hown
  have hM := hI.1
  have hs0 := hM.1.2.1
  have hs1 : mem 1 1 ≤ 320 := hM.1.2.2.1
  have e1 : st_ (st_ mem 1 1 0) 1 2 0 182 1 = mem 1 1 := by rw [st_row (by decide), st_row (by decide)]; exact hM.2.1
  refine jj_aload_n h d_L_law_169 rfl ⟨_, rfl⟩ ?_
  refine jj_callV h (cX_clear) cv_L_50 (ro_oL he (by decide) (by decide) (by omega) (by omega)) rfl rfl (by decide) rfl rfl rfl (Nat.le_of_ble_eq_true rfl) d_L_law_170 (fun v m170 hv => ?_)
  obtain ⟨rfl, rfl⟩ := hv
  refine jj_aload_n h d_L_law_173 rfl ⟨_, rfl⟩ ?_
  refine jj_callV h (cM_clear) cv_L_53 (ro_oL he (by decide) (by decide) (by omega) (by omega)) rfl rfl (by decide) rfl rfl rfl (Nat.le_of_ble_eq_true rfl) d_L_law_174 (fun v m174 hv => ?_)
  rw [e1] at hv
  obtain ⟨rfl, rfl⟩ := hv
  refine jj_icmp_eq h 666 d_L_law_177 (by decide) ⟨by omega, by omega⟩ ⟨by omega, by omega⟩ (fun _ => ?_) (fun q177 => absurd (rfl) q177)
  exact kk _ _ _ _ _ (by omega) (by omega) hI.clear
theorem lw_op2 {G : mt_G} {X : mt_X} {own : String} {b N k n : Nat} {xs : Nat → Int32} {mem : mt_M} {i : Int} {a5 a6 : Option Value} (h : OK G X c_L_law own 7) (hown : own = R_L) (he : OL G X b N xs) (hN : N ≤ 2560) (hI : IV mem) (i0 : 0 ≤ i) (i5 : i + 5 ≤ N) (hk : k + 1 ≤ 601024) (hn : n + 6 ≤ 7293034)
    (kk : ∀ (k' n' : Nat) (m' : mt_M) (b5 b6 : Option Value), k' ≤ k + 1 → n' ≤ n + 6 → IV m' → JJ G X k' n' m' 666 [some (.ref b), some (vr G 0), some (vr G 182), some (vr G 194), some (vi i), b5, b6] []) : JJ G X k n mem 182 [some (.ref b), some (vr G 0), some (vr G 182), some (vr G 194), some (vi i), a5, a6] [] := by
  subst hown
  have hM := hI.1
  have hs0 := hM.1.2.1
  have hs1 : mem 1 1 ≤ 320 := hM.1.2.2.1
  obtain ⟨L, hC, hR, hc⟩ := hI.2.2
  have h7 := hC.2.2.2.2.2.2.2
  refine jj_aload_n h d_L_law_182 rfl ⟨_, rfl⟩ ?_
  refine jj_callV h (cX_read hM.1 h7) cv_L_54 (ro_oL he (by decide) (by decide) (by omega) (by omega)) rfl rfl (by decide) rfl rfl rfl (Nat.le_of_ble_eq_true rfl) d_L_law_183 (fun v m183 hv => ?_)
  obtain ⟨f, p1, rfl, p3, p4⟩ := hv
  refine jj_aload_n h d_L_law_186 rfl ⟨_, rfl⟩ ?_
  refine jj_callV h (cM_read (n := mem 1 1) (by rw [p4 182 (by omega)]; exact hM.2.1) hs0 hs1 (fun z z0 z1 => by rw [p4 183 (by omega), hM.2.2 z z0 z1]; exact hM.1.2.2.2 z z0 z1)) cv_L_57 (ro_oL he (by decide) (by decide) (by omega) (by omega)) rfl rfl (by decide) rfl rfl rfl (Nat.le_of_ble_eq_true rfl) d_L_law_187 (fun v m187 hv => ?_)
  obtain ⟨g, -, q1, rfl, q3, q4, q5, q6, q7, -, q9⟩ := hv
  obtain ⟨eq, hI2⟩ := hI.read p1 p3 p4 q1 q3 q4 q5 q6 q7 q9
  rw [eq]
  have q5' : ((rd0 g (mem 1 1)).length : Int) ≤ 16 := by omega
  refine jj_icmp_eq h 666 d_L_law_190 (by decide) ⟨by omega, by omega⟩ ⟨by omega, by omega⟩ (fun _ => ?_) (fun q190 => absurd (rfl) q190)
  exact kk _ _ _ _ _ (by omega) (by omega) hI2
theorem lw_op3 {G : mt_G} {X : mt_X} {own : String} {b N k n : Nat} {xs : Nat → Int32} {mem : mt_M} {i : Int} {a5 a6 : Option Value} (h : OK G X c_L_law own 7) (hown : own = R_L) (he : OL G X b N xs) (hN : N ≤ 2560) (hI : IV mem) (i0 : 0 ≤ i) (i5 : i + 5 ≤ N) (hk : k + 1 ≤ 601024) (hn : n + 6 ≤ 7293034)
    (kk : ∀ (k' n' : Nat) (m' : mt_M) (b5 b6 : Option Value), k' ≤ k + 1 → n' ≤ n + 6 → IV m' → JJ G X k' n' m' 666 [some (.ref b), some (vr G 0), some (vr G 182), some (vr G 194), some (vi i), b5, b6] []) : JJ G X k n mem 195 [some (.ref b), some (vr G 0), some (vr G 182), some (vr G 194), some (vi i), a5, a6] [] := by
  subst hown
  obtain ⟨L, hC, hR, hc⟩ := hI.2.2
  have c17 := hC.1
  have c16 := hC.2.1
  have c5 : mem 182 5 = L.length := hR.2.1
  refine jj_aload_n h d_L_law_195 rfl ⟨_, rfl⟩ ?_
  refine jj_callV h (cX_entities) cv_L_58 (ro_oL he (by decide) (by decide) (by omega) (by omega)) rfl rfl (by decide) rfl rfl rfl (Nat.le_of_ble_eq_true rfl) d_L_law_196 (fun v m196 hv => ?_)
  obtain ⟨rfl, rfl⟩ := hv
  rw [c17]
  refine jj_aload_n h d_L_law_199 rfl ⟨_, rfl⟩ ?_
  refine jj_callV h (cM_entities) cv_L_61 (ro_oL he (by decide) (by decide) (by omega) (by omega)) rfl rfl (by decide) rfl rfl rfl (Nat.le_of_ble_eq_true rfl) d_L_law_200 (fun v m200 hv => ?_)
  obtain ⟨rfl, rfl⟩ := hv
  rw [c5]
  refine jj_icmp_eq h 666 d_L_law_203 (by decide) ⟨by omega, by omega⟩ ⟨by omega, by omega⟩ (fun _ => ?_) (fun q203 => absurd (rfl) q203)
  exact kk _ _ _ _ _ (by omega) (by omega) (hI.th 0)
theorem lw_op4 {G : mt_G} {X : mt_X} {own : String} {b N k n : Nat} {xs : Nat → Int32} {mem : mt_M} {i : Int} {a5 a6 : Option Value} (h : OK G X c_L_law own 7) (hown : own = R_L) (he : OL G X b N xs) (hN : N ≤ 2560) (hI : IV mem) (i0 : 0 ≤ i) (i5 : i + 5 ≤ N) (hk : k + 1 ≤ 601024) (hn : n + 6 ≤ 7293034)
    (kk : ∀ (k' n' : Nat) (m' : mt_M) (b5 b6 : Option Value), k' ≤ k + 1 → n' ≤ n + 6 → IV m' → JJ G X k' n' m' 666 [some (.ref b), some (vr G 0), some (vr G 182), some (vr G 194), some (vi i), b5, b6] []) : JJ G X k n mem 208 [some (.ref b), some (vr G 0), some (vr G 182), some (vr G 194), some (vi i), a5, a6] [] := by
  subst hown
  obtain ⟨L, hC, hR, hc⟩ := hI.2.2
  have hl9 := ol_l he
  by_cases ho : 0 ≤ sq9_ xs (i + 1) ∧ sq9_ xs (i + 1) < L.length
  · by_cases hw : 0 ≤ sq9_ xs (i + 2) ∧ sq9_ xs (i + 2) ≤ 9
    · have hk9 : lkS L (sq9_ xs (i + 1)) (sq9_ xs (i + 2)) = (0, (gE L (sq9_ xs (i + 1))).1 (sq9_ xs (i + 2))) := by unfold lkS; rw [if_pos ho, if_pos hw]
      refine jj_aload_n h d_L_law_208 rfl ⟨_, rfl⟩ ?_
      refine jj_aload_n h d_L_law_209 rfl ⟨_, rfl⟩ ?_
      refine jj_iload h d_L_law_210 rfl ?_
      refine jj_iconst h d_L_law_212 ?_
      refine jj_iadd h d_L_law_213 ?_
      refine jj_sc h he hN (by omega) (by omega) d_L_law_214 ?_
      refine jj_aload_n h d_L_law_215 rfl ⟨_, rfl⟩ ?_
      refine jj_iload h d_L_law_216 rfl ?_
      refine jj_iconst h d_L_law_218 ?_
      refine jj_iadd h d_L_law_219 ?_
      refine jj_sc h he hN (by omega) (by omega) d_L_law_220 ?_
      refine jj_aload_n h d_L_law_221 rfl ⟨_, rfl⟩ ?_
      refine jj_callW h (np := 4) (cL_look0 hC ho.1 ho.2 hw.1 hw.2) wm_L_62 wt_L_look wc_L_look wi_L ⟨⟨by decide, by decide⟩, by decide +kernel⟩ (ro_oL he (by decide) (by decide) (by omega) (by omega)) rfl rfl rfl (Nat.le_of_ble_eq_true rfl) d_L_law_222 (fun v m222 hv => ?_)
      obtain ⟨rfl, rfl⟩ := hv
      refine jj_istore h d_L_law_225 (Nat.le_of_ble_eq_true rfl) rfl ?_
      refine jj_aload_n h d_L_law_227 rfl ⟨_, rfl⟩ ?_
      refine jj_aload_n h d_L_law_228 rfl ⟨_, rfl⟩ ?_
      refine jj_iload h d_L_law_229 rfl ?_
      refine jj_iconst h d_L_law_231 ?_
      refine jj_iadd h d_L_law_232 ?_
      refine jj_sc h he hN (by omega) (by omega) d_L_law_233 ?_
      refine jj_aload_n h d_L_law_234 rfl ⟨_, rfl⟩ ?_
      refine jj_iload h d_L_law_235 rfl ?_
      refine jj_iconst h d_L_law_237 ?_
      refine jj_iadd h d_L_law_238 ?_
      refine jj_sc h he hN (by omega) (by omega) d_L_law_239 ?_
      refine jj_callV h (cM_look (hR.mv (st_ne (by decide)) (st_ne (by decide)) (st_row (by decide)) (st_row (by decide)) (st_row (by decide))) (sq9_r xs (i + 1)) (sq9_r xs (i + 2))) cv_L_67 (ro_oL he (by decide) (by decide) (by omega) (by omega)) rfl rfl (by decide) rfl rfl rfl (Nat.le_of_ble_eq_true rfl) d_L_law_240 (fun v m240 hv => ?_)
      rw [hk9] at hv
      dsimp only at hv
      obtain ⟨rfl, rfl⟩ := hv
      refine jj_istore h d_L_law_243 (Nat.le_of_ble_eq_true rfl) rfl ?_
      refine jj_aload_n h d_L_law_245 rfl ⟨_, rfl⟩ ?_
      refine jj_callV h (cM_thrown) cv_L_68 (ro_oL he (by decide) (by decide) (by omega) (by omega)) rfl rfl (by decide) rfl rfl rfl (Nat.le_of_ble_eq_true rfl) d_L_law_246 (fun v m246 hv => ?_)
      obtain ⟨rfl, rfl⟩ := hv
      rw [st_same]
      refine jj_iload h d_L_law_249 rfl ?_
      refine jj_icmp_eq h 256 d_L_law_251 (by decide) ⟨by decide, by decide⟩ ⟨by decide, by decide⟩ (fun _ => ?_) (fun q251 => absurd (rfl) q251)
      refine jj_iload h d_L_law_256 rfl ?_
      refine jj_if_ne h 273 d_L_law_258 (by decide) ⟨by decide, by decide⟩ (fun q258 => absurd (rfl) q258) (fun _ => ?_)
      refine jj_aload_n h d_L_law_261 rfl ⟨_, rfl⟩ ?_
      refine jj_iconst h d_L_law_262 ?_
      refine jj_laload h d_L_law_263 ?_
      rw [st_row (by decide), st_same]
      refine jj_iload h d_L_law_264 rfl ?_
      refine jj_i2l h d_L_law_266 ?_
      refine jj_lcmp h d_L_law_267 ?_
      rw [lg_eq]
      refine jj_if_eq h 273 d_L_law_268 (by decide) ⟨by decide, by decide⟩ (fun _ => ?_) (fun q268 => absurd (rfl) q268)
      refine jj_goto h 666 d_L_law_273 (by decide) ?_
      exact kk _ _ _ _ _ (by omega) (by omega) ((hI.out _).th _)
    · have hk9 : lkS L (sq9_ xs (i + 1)) (sq9_ xs (i + 2)) = (2, 0) := by unfold lkS; rw [if_pos ho, if_neg hw]
      refine jj_aload_n h d_L_law_208 rfl ⟨_, rfl⟩ ?_
      refine jj_aload_n h d_L_law_209 rfl ⟨_, rfl⟩ ?_
      refine jj_iload h d_L_law_210 rfl ?_
      refine jj_iconst h d_L_law_212 ?_
      refine jj_iadd h d_L_law_213 ?_
      refine jj_sc h he hN (by omega) (by omega) d_L_law_214 ?_
      refine jj_aload_n h d_L_law_215 rfl ⟨_, rfl⟩ ?_
      refine jj_iload h d_L_law_216 rfl ?_
      refine jj_iconst h d_L_law_218 ?_
      refine jj_iadd h d_L_law_219 ?_
      refine jj_sc h he hN (by omega) (by omega) d_L_law_220 ?_
      refine jj_aload_n h d_L_law_221 rfl ⟨_, rfl⟩ ?_
      refine jj_callW h (np := 4) (cL_look2 hl9 hC ho.1 ho.2 (sq9_r xs (i + 2)) hw) wm_L_62 wt_L_look wc_L_look wi_L ⟨⟨by decide, by decide⟩, by decide +kernel⟩ (ro_oL he (by decide) (by decide) (by omega) (by omega)) rfl rfl rfl (Nat.le_of_ble_eq_true rfl) d_L_law_222 (fun v m222 hv => ?_)
      obtain ⟨rfl, rfl⟩ := hv
      refine jj_istore h d_L_law_225 (Nat.le_of_ble_eq_true rfl) rfl ?_
      refine jj_aload_n h d_L_law_227 rfl ⟨_, rfl⟩ ?_
      refine jj_aload_n h d_L_law_228 rfl ⟨_, rfl⟩ ?_
      refine jj_iload h d_L_law_229 rfl ?_
      refine jj_iconst h d_L_law_231 ?_
      refine jj_iadd h d_L_law_232 ?_
      refine jj_sc h he hN (by omega) (by omega) d_L_law_233 ?_
      refine jj_aload_n h d_L_law_234 rfl ⟨_, rfl⟩ ?_
      refine jj_iload h d_L_law_235 rfl ?_
      refine jj_iconst h d_L_law_237 ?_
      refine jj_iadd h d_L_law_238 ?_
      refine jj_sc h he hN (by omega) (by omega) d_L_law_239 ?_
      refine jj_callV h (cM_look hR (sq9_r xs (i + 1)) (sq9_r xs (i + 2))) cv_L_67 (ro_oL he (by decide) (by decide) (by omega) (by omega)) rfl rfl (by decide) rfl rfl rfl (Nat.le_of_ble_eq_true rfl) d_L_law_240 (fun v m240 hv => ?_)
      rw [hk9] at hv
      dsimp only at hv
      obtain ⟨rfl, rfl⟩ := hv
      refine jj_istore h d_L_law_243 (Nat.le_of_ble_eq_true rfl) rfl ?_
      refine jj_aload_n h d_L_law_245 rfl ⟨_, rfl⟩ ?_
      refine jj_callV h (cM_thrown) cv_L_68 (ro_oL he (by decide) (by decide) (by omega) (by omega)) rfl rfl (by decide) rfl rfl rfl (Nat.le_of_ble_eq_true rfl) d_L_law_246 (fun v m246 hv => ?_)
      obtain ⟨rfl, rfl⟩ := hv
      rw [st_same]
      refine jj_iload h d_L_law_249 rfl ?_
      refine jj_icmp_eq h 256 d_L_law_251 (by decide) ⟨by decide, by decide⟩ ⟨by decide, by decide⟩ (fun _ => ?_) (fun q251 => absurd (rfl) q251)
      refine jj_iload h d_L_law_256 rfl ?_
      refine jj_if_ne h 273 d_L_law_258 (by decide) ⟨by decide, by decide⟩ (fun _ => ?_) (fun q258 => absurd q258 ((by decide)))
      refine jj_goto h 666 d_L_law_273 (by decide) ?_
      exact kk _ _ _ _ _ (by omega) (by omega) (hI.th _)
  · have hk9 : lkS L (sq9_ xs (i + 1)) (sq9_ xs (i + 2)) = (1, 0) := by unfold lkS; rw [if_neg ho]
    refine jj_aload_n h d_L_law_208 rfl ⟨_, rfl⟩ ?_
    refine jj_aload_n h d_L_law_209 rfl ⟨_, rfl⟩ ?_
    refine jj_iload h d_L_law_210 rfl ?_
    refine jj_iconst h d_L_law_212 ?_
    refine jj_iadd h d_L_law_213 ?_
    refine jj_sc h he hN (by omega) (by omega) d_L_law_214 ?_
    refine jj_aload_n h d_L_law_215 rfl ⟨_, rfl⟩ ?_
    refine jj_iload h d_L_law_216 rfl ?_
    refine jj_iconst h d_L_law_218 ?_
    refine jj_iadd h d_L_law_219 ?_
    refine jj_sc h he hN (by omega) (by omega) d_L_law_220 ?_
    refine jj_aload_n h d_L_law_221 rfl ⟨_, rfl⟩ ?_
    refine jj_callW h (np := 4) (cL_look1 hl9 hC (sq9_r xs (i + 1)) ho) wm_L_62 wt_L_look wc_L_look wi_L ⟨⟨by decide, by decide⟩, by decide +kernel⟩ (ro_oL he (by decide) (by decide) (by omega) (by omega)) rfl rfl rfl (Nat.le_of_ble_eq_true rfl) d_L_law_222 (fun v m222 hv => ?_)
    obtain ⟨rfl, rfl⟩ := hv
    refine jj_istore h d_L_law_225 (Nat.le_of_ble_eq_true rfl) rfl ?_
    refine jj_aload_n h d_L_law_227 rfl ⟨_, rfl⟩ ?_
    refine jj_aload_n h d_L_law_228 rfl ⟨_, rfl⟩ ?_
    refine jj_iload h d_L_law_229 rfl ?_
    refine jj_iconst h d_L_law_231 ?_
    refine jj_iadd h d_L_law_232 ?_
    refine jj_sc h he hN (by omega) (by omega) d_L_law_233 ?_
    refine jj_aload_n h d_L_law_234 rfl ⟨_, rfl⟩ ?_
    refine jj_iload h d_L_law_235 rfl ?_
    refine jj_iconst h d_L_law_237 ?_
    refine jj_iadd h d_L_law_238 ?_
    refine jj_sc h he hN (by omega) (by omega) d_L_law_239 ?_
    refine jj_callV h (cM_look hR (sq9_r xs (i + 1)) (sq9_r xs (i + 2))) cv_L_67 (ro_oL he (by decide) (by decide) (by omega) (by omega)) rfl rfl (by decide) rfl rfl rfl (Nat.le_of_ble_eq_true rfl) d_L_law_240 (fun v m240 hv => ?_)
    rw [hk9] at hv
    dsimp only at hv
    obtain ⟨rfl, rfl⟩ := hv
    refine jj_istore h d_L_law_243 (Nat.le_of_ble_eq_true rfl) rfl ?_
    refine jj_aload_n h d_L_law_245 rfl ⟨_, rfl⟩ ?_
    refine jj_callV h (cM_thrown) cv_L_68 (ro_oL he (by decide) (by decide) (by omega) (by omega)) rfl rfl (by decide) rfl rfl rfl (Nat.le_of_ble_eq_true rfl) d_L_law_246 (fun v m246 hv => ?_)
    obtain ⟨rfl, rfl⟩ := hv
    rw [st_same]
    refine jj_iload h d_L_law_249 rfl ?_
    refine jj_icmp_eq h 256 d_L_law_251 (by decide) ⟨by decide, by decide⟩ ⟨by decide, by decide⟩ (fun _ => ?_) (fun q251 => absurd (rfl) q251)
    refine jj_iload h d_L_law_256 rfl ?_
    refine jj_if_ne h 273 d_L_law_258 (by decide) ⟨by decide, by decide⟩ (fun _ => ?_) (fun q258 => absurd q258 ((by decide)))
    refine jj_goto h 666 d_L_law_273 (by decide) ?_
    exact kk _ _ _ _ _ (by omega) (by omega) (hI.th _)
theorem lw_op5 {G : mt_G} {X : mt_X} {own : String} {b N k n : Nat} {xs : Nat → Int32} {mem : mt_M} {i : Int} {a5 a6 : Option Value} (h : OK G X c_L_law own 7) (hown : own = R_L) (he : OL G X b N xs) (hN : N ≤ 2560) (hI : IV mem) (i0 : 0 ≤ i) (i5 : i + 5 ≤ N) (hk : k + 1 ≤ 601024) (hn : n + 6 ≤ 7293034)
    (kk : ∀ (k' n' : Nat) (m' : mt_M) (b5 b6 : Option Value), k' ≤ k + 1 → n' ≤ n + 6 → IV m' → JJ G X k' n' m' 666 [some (.ref b), some (vr G 0), some (vr G 182), some (vr G 194), some (vi i), b5, b6] []) : JJ G X k n mem 276 [some (.ref b), some (vr G 0), some (vr G 182), some (vr G 194), some (vi i), a5, a6] [] := by
  subst hown
  obtain ⟨L, hC, hR, hc⟩ := hI.2.2
  have hl9 := ol_l he
  by_cases ho : okF L (sq9_ xs (i + 1)) (sq9_ xs (i + 2))
  · by_cases hw : sq9_ xs (i + 3) = 0 ∨ sq9_ xs (i + 3) = 1
    · skip
      refine jj_aload_n h d_L_law_276 rfl ⟨_, rfl⟩ ?_
      refine jj_aload_n h d_L_law_277 rfl ⟨_, rfl⟩ ?_
      refine jj_iload h d_L_law_278 rfl ?_
      refine jj_iconst h d_L_law_280 ?_
      refine jj_iadd h d_L_law_281 ?_
      refine jj_sc h he hN (by omega) (by omega) d_L_law_282 ?_
      refine jj_aload_n h d_L_law_283 rfl ⟨_, rfl⟩ ?_
      refine jj_iload h d_L_law_284 rfl ?_
      refine jj_iconst h d_L_law_286 ?_
      refine jj_iadd h d_L_law_287 ?_
      refine jj_sc h he hN (by omega) (by omega) d_L_law_288 ?_
      refine jj_aload_n h d_L_law_289 rfl ⟨_, rfl⟩ ?_
      refine jj_iload h d_L_law_290 rfl ?_
      refine jj_iconst h d_L_law_292 ?_
      refine jj_iadd h d_L_law_293 ?_
      refine jj_sc h he hN (by omega) (by omega) d_L_law_294 ?_
      refine jj_aload_n h d_L_law_295 rfl ⟨_, rfl⟩ ?_
      refine jj_callW h (np := 5) (cL_length0 hC ho hw) wm_L_71 wt_L_length wc_L_length wi_L ⟨⟨by decide, by decide⟩, by decide +kernel⟩ (ro_oL he (by decide) (by decide) (by omega) (by omega)) rfl rfl rfl (Nat.le_of_ble_eq_true rfl) d_L_law_296 (fun v m296 hv => ?_)
      obtain ⟨rfl, rfl⟩ := hv
      refine jj_istore h d_L_law_299 (Nat.le_of_ble_eq_true rfl) rfl ?_
      refine jj_aload_n h d_L_law_301 rfl ⟨_, rfl⟩ ?_
      refine jj_aload_n h d_L_law_302 rfl ⟨_, rfl⟩ ?_
      refine jj_iload h d_L_law_303 rfl ?_
      refine jj_iconst h d_L_law_305 ?_
      refine jj_iadd h d_L_law_306 ?_
      refine jj_sc h he hN (by omega) (by omega) d_L_law_307 ?_
      refine jj_aload_n h d_L_law_308 rfl ⟨_, rfl⟩ ?_
      refine jj_iload h d_L_law_309 rfl ?_
      refine jj_iconst h d_L_law_311 ?_
      refine jj_iadd h d_L_law_312 ?_
      refine jj_sc h he hN (by omega) (by omega) d_L_law_313 ?_
      refine jj_aload_n h d_L_law_314 rfl ⟨_, rfl⟩ ?_
      refine jj_iload h d_L_law_315 rfl ?_
      refine jj_iconst h d_L_law_317 ?_
      refine jj_iadd h d_L_law_318 ?_
      refine jj_sc h he hN (by omega) (by omega) d_L_law_319 ?_
      refine jj_callV h (cM_length (hR.mv (st_ne (by decide)) (st_ne (by decide)) (st_row (by decide)) (st_row (by decide)) (st_row (by decide))) (sq9_r xs (i + 1)) (sq9_r xs (i + 2)) (sq9_r xs (i + 3))) cv_L_74 (ro_oL he (by decide) (by decide) (by omega) (by omega)) rfl rfl (by decide) rfl rfl rfl (Nat.le_of_ble_eq_true rfl) d_L_law_320 (fun v m320 hv => ?_)
      obtain ⟨rfl, rfl⟩ := hv.2.2 ho hw
      refine jj_istore h d_L_law_323 (Nat.le_of_ble_eq_true rfl) rfl ?_
      refine jj_aload_n h d_L_law_325 rfl ⟨_, rfl⟩ ?_
      refine jj_callV h (cM_thrown) cv_L_68 (ro_oL he (by decide) (by decide) (by omega) (by omega)) rfl rfl (by decide) rfl rfl rfl (Nat.le_of_ble_eq_true rfl) d_L_law_326 (fun v m326 hv => ?_)
      obtain ⟨rfl, rfl⟩ := hv
      rw [st_same]
      refine jj_iload h d_L_law_329 rfl ?_
      refine jj_icmp_eq h 336 d_L_law_331 (by decide) ⟨by decide, by decide⟩ ⟨by decide, by decide⟩ (fun _ => ?_) (fun q331 => absurd (rfl) q331)
      refine jj_iload h d_L_law_336 rfl ?_
      refine jj_if_ne h 353 d_L_law_338 (by decide) ⟨by decide, by decide⟩ (fun q338 => absurd (rfl) q338) (fun _ => ?_)
      refine jj_aload_n h d_L_law_341 rfl ⟨_, rfl⟩ ?_
      refine jj_iconst h d_L_law_342 ?_
      refine jj_laload h d_L_law_343 ?_
      rw [st_row (by decide), st_same]
      refine jj_iload h d_L_law_344 rfl ?_
      refine jj_i2l h d_L_law_346 ?_
      refine jj_lcmp h d_L_law_347 ?_
      rw [lg_eq]
      refine jj_if_eq h 353 d_L_law_348 (by decide) ⟨by decide, by decide⟩ (fun _ => ?_) (fun q348 => absurd (rfl) q348)
      refine jj_goto h 666 d_L_law_353 (by decide) ?_
      exact kk _ _ _ _ _ (by omega) (by omega) ((hI.out _).th _)
    · have w0 : sq9_ xs (i + 3) ≠ 0 := fun z => hw (Or.inl z)
      have w1 : sq9_ xs (i + 3) ≠ 1 := fun z => hw (Or.inr z)
      refine jj_aload_n h d_L_law_276 rfl ⟨_, rfl⟩ ?_
      refine jj_aload_n h d_L_law_277 rfl ⟨_, rfl⟩ ?_
      refine jj_iload h d_L_law_278 rfl ?_
      refine jj_iconst h d_L_law_280 ?_
      refine jj_iadd h d_L_law_281 ?_
      refine jj_sc h he hN (by omega) (by omega) d_L_law_282 ?_
      refine jj_aload_n h d_L_law_283 rfl ⟨_, rfl⟩ ?_
      refine jj_iload h d_L_law_284 rfl ?_
      refine jj_iconst h d_L_law_286 ?_
      refine jj_iadd h d_L_law_287 ?_
      refine jj_sc h he hN (by omega) (by omega) d_L_law_288 ?_
      refine jj_aload_n h d_L_law_289 rfl ⟨_, rfl⟩ ?_
      refine jj_iload h d_L_law_290 rfl ?_
      refine jj_iconst h d_L_law_292 ?_
      refine jj_iadd h d_L_law_293 ?_
      refine jj_sc h he hN (by omega) (by omega) d_L_law_294 ?_
      refine jj_aload_n h d_L_law_295 rfl ⟨_, rfl⟩ ?_
      refine jj_callW h (np := 5) (cL_length2 hl9 hC ho (sq9_r xs (i + 3)) w0 w1) wm_L_71 wt_L_length wc_L_length wi_L ⟨⟨by decide, by decide⟩, by decide +kernel⟩ (ro_oL he (by decide) (by decide) (by omega) (by omega)) rfl rfl rfl (Nat.le_of_ble_eq_true rfl) d_L_law_296 (fun v m296 hv => ?_)
      obtain ⟨rfl, rfl⟩ := hv
      refine jj_istore h d_L_law_299 (Nat.le_of_ble_eq_true rfl) rfl ?_
      refine jj_aload_n h d_L_law_301 rfl ⟨_, rfl⟩ ?_
      refine jj_aload_n h d_L_law_302 rfl ⟨_, rfl⟩ ?_
      refine jj_iload h d_L_law_303 rfl ?_
      refine jj_iconst h d_L_law_305 ?_
      refine jj_iadd h d_L_law_306 ?_
      refine jj_sc h he hN (by omega) (by omega) d_L_law_307 ?_
      refine jj_aload_n h d_L_law_308 rfl ⟨_, rfl⟩ ?_
      refine jj_iload h d_L_law_309 rfl ?_
      refine jj_iconst h d_L_law_311 ?_
      refine jj_iadd h d_L_law_312 ?_
      refine jj_sc h he hN (by omega) (by omega) d_L_law_313 ?_
      refine jj_aload_n h d_L_law_314 rfl ⟨_, rfl⟩ ?_
      refine jj_iload h d_L_law_315 rfl ?_
      refine jj_iconst h d_L_law_317 ?_
      refine jj_iadd h d_L_law_318 ?_
      refine jj_sc h he hN (by omega) (by omega) d_L_law_319 ?_
      refine jj_callV h (cM_length hR (sq9_r xs (i + 1)) (sq9_r xs (i + 2)) (sq9_r xs (i + 3))) cv_L_74 (ro_oL he (by decide) (by decide) (by omega) (by omega)) rfl rfl (by decide) rfl rfl rfl (Nat.le_of_ble_eq_true rfl) d_L_law_320 (fun v m320 hv => ?_)
      obtain ⟨rfl, rfl⟩ := hv.2.1 ho w0 w1
      refine jj_istore h d_L_law_323 (Nat.le_of_ble_eq_true rfl) rfl ?_
      refine jj_aload_n h d_L_law_325 rfl ⟨_, rfl⟩ ?_
      refine jj_callV h (cM_thrown) cv_L_68 (ro_oL he (by decide) (by decide) (by omega) (by omega)) rfl rfl (by decide) rfl rfl rfl (Nat.le_of_ble_eq_true rfl) d_L_law_326 (fun v m326 hv => ?_)
      obtain ⟨rfl, rfl⟩ := hv
      rw [st_same]
      refine jj_iload h d_L_law_329 rfl ?_
      refine jj_icmp_eq h 336 d_L_law_331 (by decide) ⟨by decide, by decide⟩ ⟨by decide, by decide⟩ (fun _ => ?_) (fun q331 => absurd (rfl) q331)
      refine jj_iload h d_L_law_336 rfl ?_
      refine jj_if_ne h 353 d_L_law_338 (by decide) ⟨by decide, by decide⟩ (fun _ => ?_) (fun q338 => absurd q338 ((by decide)))
      refine jj_goto h 666 d_L_law_353 (by decide) ?_
      exact kk _ _ _ _ _ (by omega) (by omega) (hI.th _)
  · skip
    refine jj_aload_n h d_L_law_276 rfl ⟨_, rfl⟩ ?_
    refine jj_aload_n h d_L_law_277 rfl ⟨_, rfl⟩ ?_
    refine jj_iload h d_L_law_278 rfl ?_
    refine jj_iconst h d_L_law_280 ?_
    refine jj_iadd h d_L_law_281 ?_
    refine jj_sc h he hN (by omega) (by omega) d_L_law_282 ?_
    refine jj_aload_n h d_L_law_283 rfl ⟨_, rfl⟩ ?_
    refine jj_iload h d_L_law_284 rfl ?_
    refine jj_iconst h d_L_law_286 ?_
    refine jj_iadd h d_L_law_287 ?_
    refine jj_sc h he hN (by omega) (by omega) d_L_law_288 ?_
    refine jj_aload_n h d_L_law_289 rfl ⟨_, rfl⟩ ?_
    refine jj_iload h d_L_law_290 rfl ?_
    refine jj_iconst h d_L_law_292 ?_
    refine jj_iadd h d_L_law_293 ?_
    refine jj_sc h he hN (by omega) (by omega) d_L_law_294 ?_
    refine jj_aload_n h d_L_law_295 rfl ⟨_, rfl⟩ ?_
    refine jj_callW h (np := 5) (cL_length1 hl9 hC (sq9_r xs (i + 1)) (sq9_r xs (i + 2)) ho) wm_L_71 wt_L_length wc_L_length wi_L ⟨⟨by decide, by decide⟩, by decide +kernel⟩ (ro_oL he (by decide) (by decide) (by omega) (by omega)) rfl rfl rfl (Nat.le_of_ble_eq_true rfl) d_L_law_296 (fun v m296 hv => ?_)
    obtain ⟨rfl, rfl⟩ := hv
    refine jj_istore h d_L_law_299 (Nat.le_of_ble_eq_true rfl) rfl ?_
    refine jj_aload_n h d_L_law_301 rfl ⟨_, rfl⟩ ?_
    refine jj_aload_n h d_L_law_302 rfl ⟨_, rfl⟩ ?_
    refine jj_iload h d_L_law_303 rfl ?_
    refine jj_iconst h d_L_law_305 ?_
    refine jj_iadd h d_L_law_306 ?_
    refine jj_sc h he hN (by omega) (by omega) d_L_law_307 ?_
    refine jj_aload_n h d_L_law_308 rfl ⟨_, rfl⟩ ?_
    refine jj_iload h d_L_law_309 rfl ?_
    refine jj_iconst h d_L_law_311 ?_
    refine jj_iadd h d_L_law_312 ?_
    refine jj_sc h he hN (by omega) (by omega) d_L_law_313 ?_
    refine jj_aload_n h d_L_law_314 rfl ⟨_, rfl⟩ ?_
    refine jj_iload h d_L_law_315 rfl ?_
    refine jj_iconst h d_L_law_317 ?_
    refine jj_iadd h d_L_law_318 ?_
    refine jj_sc h he hN (by omega) (by omega) d_L_law_319 ?_
    refine jj_callV h (cM_length hR (sq9_r xs (i + 1)) (sq9_r xs (i + 2)) (sq9_r xs (i + 3))) cv_L_74 (ro_oL he (by decide) (by decide) (by omega) (by omega)) rfl rfl (by decide) rfl rfl rfl (Nat.le_of_ble_eq_true rfl) d_L_law_320 (fun v m320 hv => ?_)
    obtain ⟨rfl, rfl⟩ := hv.1 ho
    refine jj_istore h d_L_law_323 (Nat.le_of_ble_eq_true rfl) rfl ?_
    refine jj_aload_n h d_L_law_325 rfl ⟨_, rfl⟩ ?_
    refine jj_callV h (cM_thrown) cv_L_68 (ro_oL he (by decide) (by decide) (by omega) (by omega)) rfl rfl (by decide) rfl rfl rfl (Nat.le_of_ble_eq_true rfl) d_L_law_326 (fun v m326 hv => ?_)
    obtain ⟨rfl, rfl⟩ := hv
    rw [st_same]
    refine jj_iload h d_L_law_329 rfl ?_
    refine jj_icmp_eq h 336 d_L_law_331 (by decide) ⟨by decide, by decide⟩ ⟨by decide, by decide⟩ (fun _ => ?_) (fun q331 => absurd (rfl) q331)
    refine jj_iload h d_L_law_336 rfl ?_
    refine jj_if_ne h 353 d_L_law_338 (by decide) ⟨by decide, by decide⟩ (fun _ => ?_) (fun q338 => absurd q338 ((by decide)))
    refine jj_goto h 666 d_L_law_353 (by decide) ?_
    exact kk _ _ _ _ _ (by omega) (by omega) (hI.th _)
theorem lw_op6 {G : mt_G} {X : mt_X} {own : String} {b N k n : Nat} {xs : Nat → Int32} {mem : mt_M} {i : Int} {a5 a6 : Option Value} (h : OK G X c_L_law own 7) (hown : own = R_L) (he : OL G X b N xs) (hN : N ≤ 2560) (hI : IV mem) (i0 : 0 ≤ i) (i5 : i + 5 ≤ N) (hk : k + 1 ≤ 601024) (hn : n + 6 ≤ 7293034)
    (kk : ∀ (k' n' : Nat) (m' : mt_M) (b5 b6 : Option Value), k' ≤ k + 1 → n' ≤ n + 6 → IV m' → JJ G X k' n' m' 666 [some (.ref b), some (vr G 0), some (vr G 182), some (vr G 194), some (vi i), b5, b6] []) : JJ G X k n mem 356 [some (.ref b), some (vr G 0), some (vr G 182), some (vr G 194), some (vi i), a5, a6] [] := by
  subst hown
  obtain ⟨L, hC, hR, hc⟩ := hI.2.2
  have hl9 := ol_l he
  by_cases ho : okF L (sq9_ xs (i + 1)) (sq9_ xs (i + 2))
  · by_cases hw : sq9_ xs (i + 3) = 0 ∨ sq9_ xs (i + 3) = 1
    · by_cases hi : 0 ≤ sq9_ xs (i + 4) ∧ sq9_ xs (i + 4) < (nv_ (gF L (sq9_ xs (i + 1)) (sq9_ xs (i + 2))) (sq9_ xs (i + 3))).length
      · skip
        refine jj_aload_n h d_L_law_356 rfl ⟨_, rfl⟩ ?_
        refine jj_aload_n h d_L_law_357 rfl ⟨_, rfl⟩ ?_
        refine jj_iload h d_L_law_358 rfl ?_
        refine jj_iconst h d_L_law_360 ?_
        refine jj_iadd h d_L_law_361 ?_
        refine jj_sc h he hN (by omega) (by omega) d_L_law_362 ?_
        refine jj_aload_n h d_L_law_363 rfl ⟨_, rfl⟩ ?_
        refine jj_iload h d_L_law_364 rfl ?_
        refine jj_iconst h d_L_law_366 ?_
        refine jj_iadd h d_L_law_367 ?_
        refine jj_sc h he hN (by omega) (by omega) d_L_law_368 ?_
        refine jj_aload_n h d_L_law_369 rfl ⟨_, rfl⟩ ?_
        refine jj_iload h d_L_law_370 rfl ?_
        refine jj_iconst h d_L_law_372 ?_
        refine jj_iadd h d_L_law_373 ?_
        refine jj_sc h he hN (by omega) (by omega) d_L_law_374 ?_
        refine jj_aload_n h d_L_law_375 rfl ⟨_, rfl⟩ ?_
        refine jj_iload h d_L_law_376 rfl ?_
        refine jj_iconst h d_L_law_378 ?_
        refine jj_iadd h d_L_law_379 ?_
        refine jj_sc h he hN (by omega) (by omega) d_L_law_380 ?_
        refine jj_aload_n h d_L_law_381 rfl ⟨_, rfl⟩ ?_
        refine jj_callW h (np := 6) (cL_letter0 hC ho hw hi.1 hi.2) wm_L_75 wt_L_letter wc_L_letter wi_L ⟨⟨by decide, by decide⟩, by decide +kernel⟩ (ro_oL he (by decide) (by decide) (by omega) (by omega)) rfl rfl rfl (Nat.le_of_ble_eq_true rfl) d_L_law_382 (fun v m382 hv => ?_)
        obtain ⟨rfl, rfl⟩ := hv
        refine jj_istore h d_L_law_385 (Nat.le_of_ble_eq_true rfl) rfl ?_
        refine jj_aload_n h d_L_law_387 rfl ⟨_, rfl⟩ ?_
        refine jj_aload_n h d_L_law_388 rfl ⟨_, rfl⟩ ?_
        refine jj_iload h d_L_law_389 rfl ?_
        refine jj_iconst h d_L_law_391 ?_
        refine jj_iadd h d_L_law_392 ?_
        refine jj_sc h he hN (by omega) (by omega) d_L_law_393 ?_
        refine jj_aload_n h d_L_law_394 rfl ⟨_, rfl⟩ ?_
        refine jj_iload h d_L_law_395 rfl ?_
        refine jj_iconst h d_L_law_397 ?_
        refine jj_iadd h d_L_law_398 ?_
        refine jj_sc h he hN (by omega) (by omega) d_L_law_399 ?_
        refine jj_aload_n h d_L_law_400 rfl ⟨_, rfl⟩ ?_
        refine jj_iload h d_L_law_401 rfl ?_
        refine jj_iconst h d_L_law_403 ?_
        refine jj_iadd h d_L_law_404 ?_
        refine jj_sc h he hN (by omega) (by omega) d_L_law_405 ?_
        refine jj_aload_n h d_L_law_406 rfl ⟨_, rfl⟩ ?_
        refine jj_iload h d_L_law_407 rfl ?_
        refine jj_iconst h d_L_law_409 ?_
        refine jj_iadd h d_L_law_410 ?_
        refine jj_sc h he hN (by omega) (by omega) d_L_law_411 ?_
        refine jj_callV h (cM_letter (hR.mv (st_ne (by decide)) (st_ne (by decide)) (st_row (by decide)) (st_row (by decide)) (st_row (by decide))) (sq9_r xs (i + 1)) (sq9_r xs (i + 2)) (sq9_r xs (i + 3)) (sq9_r xs (i + 4))) cv_L_78 (ro_oL he (by decide) (by decide) (by omega) (by omega)) rfl rfl (by decide) rfl rfl rfl (Nat.le_of_ble_eq_true rfl) d_L_law_412 (fun v m412 hv => ?_)
        obtain ⟨rfl, rfl⟩ := (hv.2.2 ho hw).1 hi
        refine jj_istore h d_L_law_415 (Nat.le_of_ble_eq_true rfl) rfl ?_
        refine jj_aload_n h d_L_law_417 rfl ⟨_, rfl⟩ ?_
        refine jj_callV h (cM_thrown) cv_L_68 (ro_oL he (by decide) (by decide) (by omega) (by omega)) rfl rfl (by decide) rfl rfl rfl (Nat.le_of_ble_eq_true rfl) d_L_law_418 (fun v m418 hv => ?_)
        obtain ⟨rfl, rfl⟩ := hv
        rw [st_same]
        refine jj_iload h d_L_law_421 rfl ?_
        refine jj_icmp_eq h 428 d_L_law_423 (by decide) ⟨by decide, by decide⟩ ⟨by decide, by decide⟩ (fun _ => ?_) (fun q423 => absurd (rfl) q423)
        refine jj_iload h d_L_law_428 rfl ?_
        refine jj_if_ne h 445 d_L_law_430 (by decide) ⟨by decide, by decide⟩ (fun q430 => absurd (rfl) q430) (fun _ => ?_)
        refine jj_aload_n h d_L_law_433 rfl ⟨_, rfl⟩ ?_
        refine jj_iconst h d_L_law_434 ?_
        refine jj_laload h d_L_law_435 ?_
        rw [st_row (by decide), st_same]
        refine jj_iload h d_L_law_436 rfl ?_
        refine jj_i2l h d_L_law_438 ?_
        refine jj_lcmp h d_L_law_439 ?_
        rw [lg_eq]
        refine jj_if_eq h 445 d_L_law_440 (by decide) ⟨by decide, by decide⟩ (fun _ => ?_) (fun q440 => absurd (rfl) q440)
        refine jj_goto h 666 d_L_law_445 (by decide) ?_
        exact kk _ _ _ _ _ (by omega) (by omega) ((hI.out _).th _)
      · skip
        refine jj_aload_n h d_L_law_356 rfl ⟨_, rfl⟩ ?_
        refine jj_aload_n h d_L_law_357 rfl ⟨_, rfl⟩ ?_
        refine jj_iload h d_L_law_358 rfl ?_
        refine jj_iconst h d_L_law_360 ?_
        refine jj_iadd h d_L_law_361 ?_
        refine jj_sc h he hN (by omega) (by omega) d_L_law_362 ?_
        refine jj_aload_n h d_L_law_363 rfl ⟨_, rfl⟩ ?_
        refine jj_iload h d_L_law_364 rfl ?_
        refine jj_iconst h d_L_law_366 ?_
        refine jj_iadd h d_L_law_367 ?_
        refine jj_sc h he hN (by omega) (by omega) d_L_law_368 ?_
        refine jj_aload_n h d_L_law_369 rfl ⟨_, rfl⟩ ?_
        refine jj_iload h d_L_law_370 rfl ?_
        refine jj_iconst h d_L_law_372 ?_
        refine jj_iadd h d_L_law_373 ?_
        refine jj_sc h he hN (by omega) (by omega) d_L_law_374 ?_
        refine jj_aload_n h d_L_law_375 rfl ⟨_, rfl⟩ ?_
        refine jj_iload h d_L_law_376 rfl ?_
        refine jj_iconst h d_L_law_378 ?_
        refine jj_iadd h d_L_law_379 ?_
        refine jj_sc h he hN (by omega) (by omega) d_L_law_380 ?_
        refine jj_aload_n h d_L_law_381 rfl ⟨_, rfl⟩ ?_
        refine jj_callW h (np := 6) (cL_letter3 hl9 hC ho hw (sq9_r xs (i + 4)) hi) wm_L_75 wt_L_letter wc_L_letter wi_L ⟨⟨by decide, by decide⟩, by decide +kernel⟩ (ro_oL he (by decide) (by decide) (by omega) (by omega)) rfl rfl rfl (Nat.le_of_ble_eq_true rfl) d_L_law_382 (fun v m382 hv => ?_)
        obtain ⟨rfl, rfl⟩ := hv
        refine jj_istore h d_L_law_385 (Nat.le_of_ble_eq_true rfl) rfl ?_
        refine jj_aload_n h d_L_law_387 rfl ⟨_, rfl⟩ ?_
        refine jj_aload_n h d_L_law_388 rfl ⟨_, rfl⟩ ?_
        refine jj_iload h d_L_law_389 rfl ?_
        refine jj_iconst h d_L_law_391 ?_
        refine jj_iadd h d_L_law_392 ?_
        refine jj_sc h he hN (by omega) (by omega) d_L_law_393 ?_
        refine jj_aload_n h d_L_law_394 rfl ⟨_, rfl⟩ ?_
        refine jj_iload h d_L_law_395 rfl ?_
        refine jj_iconst h d_L_law_397 ?_
        refine jj_iadd h d_L_law_398 ?_
        refine jj_sc h he hN (by omega) (by omega) d_L_law_399 ?_
        refine jj_aload_n h d_L_law_400 rfl ⟨_, rfl⟩ ?_
        refine jj_iload h d_L_law_401 rfl ?_
        refine jj_iconst h d_L_law_403 ?_
        refine jj_iadd h d_L_law_404 ?_
        refine jj_sc h he hN (by omega) (by omega) d_L_law_405 ?_
        refine jj_aload_n h d_L_law_406 rfl ⟨_, rfl⟩ ?_
        refine jj_iload h d_L_law_407 rfl ?_
        refine jj_iconst h d_L_law_409 ?_
        refine jj_iadd h d_L_law_410 ?_
        refine jj_sc h he hN (by omega) (by omega) d_L_law_411 ?_
        refine jj_callV h (cM_letter hR (sq9_r xs (i + 1)) (sq9_r xs (i + 2)) (sq9_r xs (i + 3)) (sq9_r xs (i + 4))) cv_L_78 (ro_oL he (by decide) (by decide) (by omega) (by omega)) rfl rfl (by decide) rfl rfl rfl (Nat.le_of_ble_eq_true rfl) d_L_law_412 (fun v m412 hv => ?_)
        obtain ⟨rfl, rfl⟩ := (hv.2.2 ho hw).2 hi
        refine jj_istore h d_L_law_415 (Nat.le_of_ble_eq_true rfl) rfl ?_
        refine jj_aload_n h d_L_law_417 rfl ⟨_, rfl⟩ ?_
        refine jj_callV h (cM_thrown) cv_L_68 (ro_oL he (by decide) (by decide) (by omega) (by omega)) rfl rfl (by decide) rfl rfl rfl (Nat.le_of_ble_eq_true rfl) d_L_law_418 (fun v m418 hv => ?_)
        obtain ⟨rfl, rfl⟩ := hv
        rw [st_same]
        refine jj_iload h d_L_law_421 rfl ?_
        refine jj_icmp_eq h 428 d_L_law_423 (by decide) ⟨by decide, by decide⟩ ⟨by decide, by decide⟩ (fun _ => ?_) (fun q423 => absurd (rfl) q423)
        refine jj_iload h d_L_law_428 rfl ?_
        refine jj_if_ne h 445 d_L_law_430 (by decide) ⟨by decide, by decide⟩ (fun _ => ?_) (fun q430 => absurd q430 ((by decide)))
        refine jj_goto h 666 d_L_law_445 (by decide) ?_
        exact kk _ _ _ _ _ (by omega) (by omega) (hI.th _)
    · have w0 : sq9_ xs (i + 3) ≠ 0 := fun z => hw (Or.inl z)
      have w1 : sq9_ xs (i + 3) ≠ 1 := fun z => hw (Or.inr z)
      refine jj_aload_n h d_L_law_356 rfl ⟨_, rfl⟩ ?_
      refine jj_aload_n h d_L_law_357 rfl ⟨_, rfl⟩ ?_
      refine jj_iload h d_L_law_358 rfl ?_
      refine jj_iconst h d_L_law_360 ?_
      refine jj_iadd h d_L_law_361 ?_
      refine jj_sc h he hN (by omega) (by omega) d_L_law_362 ?_
      refine jj_aload_n h d_L_law_363 rfl ⟨_, rfl⟩ ?_
      refine jj_iload h d_L_law_364 rfl ?_
      refine jj_iconst h d_L_law_366 ?_
      refine jj_iadd h d_L_law_367 ?_
      refine jj_sc h he hN (by omega) (by omega) d_L_law_368 ?_
      refine jj_aload_n h d_L_law_369 rfl ⟨_, rfl⟩ ?_
      refine jj_iload h d_L_law_370 rfl ?_
      refine jj_iconst h d_L_law_372 ?_
      refine jj_iadd h d_L_law_373 ?_
      refine jj_sc h he hN (by omega) (by omega) d_L_law_374 ?_
      refine jj_aload_n h d_L_law_375 rfl ⟨_, rfl⟩ ?_
      refine jj_iload h d_L_law_376 rfl ?_
      refine jj_iconst h d_L_law_378 ?_
      refine jj_iadd h d_L_law_379 ?_
      refine jj_sc h he hN (by omega) (by omega) d_L_law_380 ?_
      refine jj_aload_n h d_L_law_381 rfl ⟨_, rfl⟩ ?_
      refine jj_callW h (np := 6) (cL_letter2 hl9 hC ho (sq9_r xs (i + 3)) w0 w1) wm_L_75 wt_L_letter wc_L_letter wi_L ⟨⟨by decide, by decide⟩, by decide +kernel⟩ (ro_oL he (by decide) (by decide) (by omega) (by omega)) rfl rfl rfl (Nat.le_of_ble_eq_true rfl) d_L_law_382 (fun v m382 hv => ?_)
      obtain ⟨rfl, rfl⟩ := hv
      refine jj_istore h d_L_law_385 (Nat.le_of_ble_eq_true rfl) rfl ?_
      refine jj_aload_n h d_L_law_387 rfl ⟨_, rfl⟩ ?_
      refine jj_aload_n h d_L_law_388 rfl ⟨_, rfl⟩ ?_
      refine jj_iload h d_L_law_389 rfl ?_
      refine jj_iconst h d_L_law_391 ?_
      refine jj_iadd h d_L_law_392 ?_
      refine jj_sc h he hN (by omega) (by omega) d_L_law_393 ?_
      refine jj_aload_n h d_L_law_394 rfl ⟨_, rfl⟩ ?_
      refine jj_iload h d_L_law_395 rfl ?_
      refine jj_iconst h d_L_law_397 ?_
      refine jj_iadd h d_L_law_398 ?_
      refine jj_sc h he hN (by omega) (by omega) d_L_law_399 ?_
      refine jj_aload_n h d_L_law_400 rfl ⟨_, rfl⟩ ?_
      refine jj_iload h d_L_law_401 rfl ?_
      refine jj_iconst h d_L_law_403 ?_
      refine jj_iadd h d_L_law_404 ?_
      refine jj_sc h he hN (by omega) (by omega) d_L_law_405 ?_
      refine jj_aload_n h d_L_law_406 rfl ⟨_, rfl⟩ ?_
      refine jj_iload h d_L_law_407 rfl ?_
      refine jj_iconst h d_L_law_409 ?_
      refine jj_iadd h d_L_law_410 ?_
      refine jj_sc h he hN (by omega) (by omega) d_L_law_411 ?_
      refine jj_callV h (cM_letter hR (sq9_r xs (i + 1)) (sq9_r xs (i + 2)) (sq9_r xs (i + 3)) (sq9_r xs (i + 4))) cv_L_78 (ro_oL he (by decide) (by decide) (by omega) (by omega)) rfl rfl (by decide) rfl rfl rfl (Nat.le_of_ble_eq_true rfl) d_L_law_412 (fun v m412 hv => ?_)
      obtain ⟨rfl, rfl⟩ := hv.2.1 ho w0 w1
      refine jj_istore h d_L_law_415 (Nat.le_of_ble_eq_true rfl) rfl ?_
      refine jj_aload_n h d_L_law_417 rfl ⟨_, rfl⟩ ?_
      refine jj_callV h (cM_thrown) cv_L_68 (ro_oL he (by decide) (by decide) (by omega) (by omega)) rfl rfl (by decide) rfl rfl rfl (Nat.le_of_ble_eq_true rfl) d_L_law_418 (fun v m418 hv => ?_)
      obtain ⟨rfl, rfl⟩ := hv
      rw [st_same]
      refine jj_iload h d_L_law_421 rfl ?_
      refine jj_icmp_eq h 428 d_L_law_423 (by decide) ⟨by decide, by decide⟩ ⟨by decide, by decide⟩ (fun _ => ?_) (fun q423 => absurd (rfl) q423)
      refine jj_iload h d_L_law_428 rfl ?_
      refine jj_if_ne h 445 d_L_law_430 (by decide) ⟨by decide, by decide⟩ (fun _ => ?_) (fun q430 => absurd q430 ((by decide)))
      refine jj_goto h 666 d_L_law_445 (by decide) ?_
      exact kk _ _ _ _ _ (by omega) (by omega) (hI.th _)
  · skip
    refine jj_aload_n h d_L_law_356 rfl ⟨_, rfl⟩ ?_
    refine jj_aload_n h d_L_law_357 rfl ⟨_, rfl⟩ ?_
    refine jj_iload h d_L_law_358 rfl ?_
    refine jj_iconst h d_L_law_360 ?_
    refine jj_iadd h d_L_law_361 ?_
    refine jj_sc h he hN (by omega) (by omega) d_L_law_362 ?_
    refine jj_aload_n h d_L_law_363 rfl ⟨_, rfl⟩ ?_
    refine jj_iload h d_L_law_364 rfl ?_
    refine jj_iconst h d_L_law_366 ?_
    refine jj_iadd h d_L_law_367 ?_
    refine jj_sc h he hN (by omega) (by omega) d_L_law_368 ?_
    refine jj_aload_n h d_L_law_369 rfl ⟨_, rfl⟩ ?_
    refine jj_iload h d_L_law_370 rfl ?_
    refine jj_iconst h d_L_law_372 ?_
    refine jj_iadd h d_L_law_373 ?_
    refine jj_sc h he hN (by omega) (by omega) d_L_law_374 ?_
    refine jj_aload_n h d_L_law_375 rfl ⟨_, rfl⟩ ?_
    refine jj_iload h d_L_law_376 rfl ?_
    refine jj_iconst h d_L_law_378 ?_
    refine jj_iadd h d_L_law_379 ?_
    refine jj_sc h he hN (by omega) (by omega) d_L_law_380 ?_
    refine jj_aload_n h d_L_law_381 rfl ⟨_, rfl⟩ ?_
    refine jj_callW h (np := 6) (cL_letter1 hl9 hC (sq9_r xs (i + 1)) (sq9_r xs (i + 2)) ho) wm_L_75 wt_L_letter wc_L_letter wi_L ⟨⟨by decide, by decide⟩, by decide +kernel⟩ (ro_oL he (by decide) (by decide) (by omega) (by omega)) rfl rfl rfl (Nat.le_of_ble_eq_true rfl) d_L_law_382 (fun v m382 hv => ?_)
    obtain ⟨rfl, rfl⟩ := hv
    refine jj_istore h d_L_law_385 (Nat.le_of_ble_eq_true rfl) rfl ?_
    refine jj_aload_n h d_L_law_387 rfl ⟨_, rfl⟩ ?_
    refine jj_aload_n h d_L_law_388 rfl ⟨_, rfl⟩ ?_
    refine jj_iload h d_L_law_389 rfl ?_
    refine jj_iconst h d_L_law_391 ?_
    refine jj_iadd h d_L_law_392 ?_
    refine jj_sc h he hN (by omega) (by omega) d_L_law_393 ?_
    refine jj_aload_n h d_L_law_394 rfl ⟨_, rfl⟩ ?_
    refine jj_iload h d_L_law_395 rfl ?_
    refine jj_iconst h d_L_law_397 ?_
    refine jj_iadd h d_L_law_398 ?_
    refine jj_sc h he hN (by omega) (by omega) d_L_law_399 ?_
    refine jj_aload_n h d_L_law_400 rfl ⟨_, rfl⟩ ?_
    refine jj_iload h d_L_law_401 rfl ?_
    refine jj_iconst h d_L_law_403 ?_
    refine jj_iadd h d_L_law_404 ?_
    refine jj_sc h he hN (by omega) (by omega) d_L_law_405 ?_
    refine jj_aload_n h d_L_law_406 rfl ⟨_, rfl⟩ ?_
    refine jj_iload h d_L_law_407 rfl ?_
    refine jj_iconst h d_L_law_409 ?_
    refine jj_iadd h d_L_law_410 ?_
    refine jj_sc h he hN (by omega) (by omega) d_L_law_411 ?_
    refine jj_callV h (cM_letter hR (sq9_r xs (i + 1)) (sq9_r xs (i + 2)) (sq9_r xs (i + 3)) (sq9_r xs (i + 4))) cv_L_78 (ro_oL he (by decide) (by decide) (by omega) (by omega)) rfl rfl (by decide) rfl rfl rfl (Nat.le_of_ble_eq_true rfl) d_L_law_412 (fun v m412 hv => ?_)
    obtain ⟨rfl, rfl⟩ := hv.1 ho
    refine jj_istore h d_L_law_415 (Nat.le_of_ble_eq_true rfl) rfl ?_
    refine jj_aload_n h d_L_law_417 rfl ⟨_, rfl⟩ ?_
    refine jj_callV h (cM_thrown) cv_L_68 (ro_oL he (by decide) (by decide) (by omega) (by omega)) rfl rfl (by decide) rfl rfl rfl (Nat.le_of_ble_eq_true rfl) d_L_law_418 (fun v m418 hv => ?_)
    obtain ⟨rfl, rfl⟩ := hv
    rw [st_same]
    refine jj_iload h d_L_law_421 rfl ?_
    refine jj_icmp_eq h 428 d_L_law_423 (by decide) ⟨by decide, by decide⟩ ⟨by decide, by decide⟩ (fun _ => ?_) (fun q423 => absurd (rfl) q423)
    refine jj_iload h d_L_law_428 rfl ?_
    refine jj_if_ne h 445 d_L_law_430 (by decide) ⟨by decide, by decide⟩ (fun _ => ?_) (fun q430 => absurd q430 ((by decide)))
    refine jj_goto h 666 d_L_law_445 (by decide) ?_
    exact kk _ _ _ _ _ (by omega) (by omega) (hI.th _)
theorem lw_op7 {G : mt_G} {X : mt_X} {own : String} {b N k n : Nat} {xs : Nat → Int32} {mem : mt_M} {i : Int} {a5 a6 : Option Value} (h : OK G X c_L_law own 7) (hown : own = R_L) (he : OL G X b N xs) (hN : N ≤ 2560) (hI : IV mem) (i0 : 0 ≤ i) (i5 : i + 5 ≤ N) (hk : k + 1 ≤ 601024) (hn : n + 6 ≤ 7293034)
    (kk : ∀ (k' n' : Nat) (m' : mt_M) (b5 b6 : Option Value), k' ≤ k + 1 → n' ≤ n + 6 → IV m' → JJ G X k' n' m' 666 [some (.ref b), some (vr G 0), some (vr G 182), some (vr G 194), some (vi i), b5, b6] []) : JJ G X k n mem 448 [some (.ref b), some (vr G 0), some (vr G 182), some (vr G 194), some (vi i), a5, a6] [] := by
  subst hown
  obtain ⟨L, hC, hR, hc⟩ := hI.2.2
  have hl9 := ol_l he
  by_cases ho : okC L (sq9_ xs (i + 1)) (sq9_ xs (i + 2))
  · skip
    refine jj_aload_n h d_L_law_448 rfl ⟨_, rfl⟩ ?_
    refine jj_aload_n h d_L_law_449 rfl ⟨_, rfl⟩ ?_
    refine jj_iload h d_L_law_450 rfl ?_
    refine jj_iconst h d_L_law_452 ?_
    refine jj_iadd h d_L_law_453 ?_
    refine jj_sc h he hN (by omega) (by omega) d_L_law_454 ?_
    refine jj_aload_n h d_L_law_455 rfl ⟨_, rfl⟩ ?_
    refine jj_iload h d_L_law_456 rfl ?_
    refine jj_iconst h d_L_law_458 ?_
    refine jj_iadd h d_L_law_459 ?_
    refine jj_sc h he hN (by omega) (by omega) d_L_law_460 ?_
    refine jj_aload_n h d_L_law_461 rfl ⟨_, rfl⟩ ?_
    refine jj_callW h (np := 4) (cL_content0 hC ho) wm_L_79 wt_L_content wc_L_content wi_L ⟨⟨by decide, by decide⟩, by decide +kernel⟩ (ro_oL he (by decide) (by decide) (by omega) (by omega)) rfl rfl rfl (Nat.le_of_ble_eq_true rfl) d_L_law_462 (fun v m462 hv => ?_)
    obtain ⟨rfl, rfl⟩ := hv
    refine jj_istore h d_L_law_465 (Nat.le_of_ble_eq_true rfl) rfl ?_
    refine jj_aload_n h d_L_law_467 rfl ⟨_, rfl⟩ ?_
    refine jj_aload_n h d_L_law_468 rfl ⟨_, rfl⟩ ?_
    refine jj_iload h d_L_law_469 rfl ?_
    refine jj_iconst h d_L_law_471 ?_
    refine jj_iadd h d_L_law_472 ?_
    refine jj_sc h he hN (by omega) (by omega) d_L_law_473 ?_
    refine jj_aload_n h d_L_law_474 rfl ⟨_, rfl⟩ ?_
    refine jj_iload h d_L_law_475 rfl ?_
    refine jj_iconst h d_L_law_477 ?_
    refine jj_iadd h d_L_law_478 ?_
    refine jj_sc h he hN (by omega) (by omega) d_L_law_479 ?_
    refine jj_callV h (cM_content (hR.mv (st_ne (by decide)) (st_ne (by decide)) (st_row (by decide)) (st_row (by decide)) (st_row (by decide))) (sq9_r xs (i + 1)) (sq9_r xs (i + 2))) cv_L_81 (ro_oL he (by decide) (by decide) (by omega) (by omega)) rfl rfl (by decide) rfl rfl rfl (Nat.le_of_ble_eq_true rfl) d_L_law_480 (fun v m480 hv => ?_)
    obtain ⟨rfl, rfl⟩ := hv.1 ho
    refine jj_istore h d_L_law_483 (Nat.le_of_ble_eq_true rfl) rfl ?_
    refine jj_aload_n h d_L_law_485 rfl ⟨_, rfl⟩ ?_
    refine jj_callV h (cM_thrown) cv_L_68 (ro_oL he (by decide) (by decide) (by omega) (by omega)) rfl rfl (by decide) rfl rfl rfl (Nat.le_of_ble_eq_true rfl) d_L_law_486 (fun v m486 hv => ?_)
    obtain ⟨rfl, rfl⟩ := hv
    rw [st_same]
    refine jj_iload h d_L_law_489 rfl ?_
    refine jj_icmp_eq h 496 d_L_law_491 (by decide) ⟨by decide, by decide⟩ ⟨by decide, by decide⟩ (fun _ => ?_) (fun q491 => absurd (rfl) q491)
    refine jj_iload h d_L_law_496 rfl ?_
    refine jj_if_ne h 513 d_L_law_498 (by decide) ⟨by decide, by decide⟩ (fun q498 => absurd (rfl) q498) (fun _ => ?_)
    refine jj_aload_n h d_L_law_501 rfl ⟨_, rfl⟩ ?_
    refine jj_iconst h d_L_law_502 ?_
    refine jj_laload h d_L_law_503 ?_
    rw [st_row (by decide), st_same]
    refine jj_iload h d_L_law_504 rfl ?_
    refine jj_i2l h d_L_law_506 ?_
    refine jj_lcmp h d_L_law_507 ?_
    rw [lg_eq]
    refine jj_if_eq h 513 d_L_law_508 (by decide) ⟨by decide, by decide⟩ (fun _ => ?_) (fun q508 => absurd (rfl) q508)
    refine jj_goto h 666 d_L_law_513 (by decide) ?_
    exact kk _ _ _ _ _ (by omega) (by omega) ((hI.out _).th _)
  · skip
    refine jj_aload_n h d_L_law_448 rfl ⟨_, rfl⟩ ?_
    refine jj_aload_n h d_L_law_449 rfl ⟨_, rfl⟩ ?_
    refine jj_iload h d_L_law_450 rfl ?_
    refine jj_iconst h d_L_law_452 ?_
    refine jj_iadd h d_L_law_453 ?_
    refine jj_sc h he hN (by omega) (by omega) d_L_law_454 ?_
    refine jj_aload_n h d_L_law_455 rfl ⟨_, rfl⟩ ?_
    refine jj_iload h d_L_law_456 rfl ?_
    refine jj_iconst h d_L_law_458 ?_
    refine jj_iadd h d_L_law_459 ?_
    refine jj_sc h he hN (by omega) (by omega) d_L_law_460 ?_
    refine jj_aload_n h d_L_law_461 rfl ⟨_, rfl⟩ ?_
    refine jj_callW h (np := 4) (cL_content1 hl9 hC (sq9_r xs (i + 1)) (sq9_r xs (i + 2)) ho) wm_L_79 wt_L_content wc_L_content wi_L ⟨⟨by decide, by decide⟩, by decide +kernel⟩ (ro_oL he (by decide) (by decide) (by omega) (by omega)) rfl rfl rfl (Nat.le_of_ble_eq_true rfl) d_L_law_462 (fun v m462 hv => ?_)
    obtain ⟨rfl, rfl⟩ := hv
    refine jj_istore h d_L_law_465 (Nat.le_of_ble_eq_true rfl) rfl ?_
    refine jj_aload_n h d_L_law_467 rfl ⟨_, rfl⟩ ?_
    refine jj_aload_n h d_L_law_468 rfl ⟨_, rfl⟩ ?_
    refine jj_iload h d_L_law_469 rfl ?_
    refine jj_iconst h d_L_law_471 ?_
    refine jj_iadd h d_L_law_472 ?_
    refine jj_sc h he hN (by omega) (by omega) d_L_law_473 ?_
    refine jj_aload_n h d_L_law_474 rfl ⟨_, rfl⟩ ?_
    refine jj_iload h d_L_law_475 rfl ?_
    refine jj_iconst h d_L_law_477 ?_
    refine jj_iadd h d_L_law_478 ?_
    refine jj_sc h he hN (by omega) (by omega) d_L_law_479 ?_
    refine jj_callV h (cM_content hR (sq9_r xs (i + 1)) (sq9_r xs (i + 2))) cv_L_81 (ro_oL he (by decide) (by decide) (by omega) (by omega)) rfl rfl (by decide) rfl rfl rfl (Nat.le_of_ble_eq_true rfl) d_L_law_480 (fun v m480 hv => ?_)
    obtain ⟨rfl, rfl⟩ := hv.2 ho
    refine jj_istore h d_L_law_483 (Nat.le_of_ble_eq_true rfl) rfl ?_
    refine jj_aload_n h d_L_law_485 rfl ⟨_, rfl⟩ ?_
    refine jj_callV h (cM_thrown) cv_L_68 (ro_oL he (by decide) (by decide) (by omega) (by omega)) rfl rfl (by decide) rfl rfl rfl (Nat.le_of_ble_eq_true rfl) d_L_law_486 (fun v m486 hv => ?_)
    obtain ⟨rfl, rfl⟩ := hv
    rw [st_same]
    refine jj_iload h d_L_law_489 rfl ?_
    refine jj_icmp_eq h 496 d_L_law_491 (by decide) ⟨by decide, by decide⟩ ⟨by decide, by decide⟩ (fun _ => ?_) (fun q491 => absurd (rfl) q491)
    refine jj_iload h d_L_law_496 rfl ?_
    refine jj_if_ne h 513 d_L_law_498 (by decide) ⟨by decide, by decide⟩ (fun _ => ?_) (fun q498 => absurd q498 ((by decide)))
    refine jj_goto h 666 d_L_law_513 (by decide) ?_
    exact kk _ _ _ _ _ (by omega) (by omega) (hI.th _)
theorem lw_op8 {G : mt_G} {X : mt_X} {own : String} {b N k n : Nat} {xs : Nat → Int32} {mem : mt_M} {i : Int} {a5 a6 : Option Value} (h : OK G X c_L_law own 7) (hown : own = R_L) (he : OL G X b N xs) (hN : N ≤ 2560) (hI : IV mem) (i0 : 0 ≤ i) (i5 : i + 5 ≤ N) (hk : k + 1 ≤ 601024) (hn : n + 6 ≤ 7293034)
    (kk : ∀ (k' n' : Nat) (m' : mt_M) (b5 b6 : Option Value), k' ≤ k + 1 → n' ≤ n + 6 → IV m' → JJ G X k' n' m' 666 [some (.ref b), some (vr G 0), some (vr G 182), some (vr G 194), some (vi i), b5, b6] []) : JJ G X k n mem 516 [some (.ref b), some (vr G 0), some (vr G 182), some (vr G 194), some (vi i), a5, a6] [] := by
  subst hown
  obtain ⟨L, hC, hR, hc⟩ := hI.2.2
  have hl9 := ol_l he
  have hkd : ∀ e : Int, 0 ≤ e → e < L.length → r32 ((gE L e).1 0) := fun e e0 e1 => by
    rcases hc with ⟨_, hz⟩ | ⟨_, hz⟩
    · rw [hz] at e1; exact absurd e1 (by simp; omega)
    · have := (hz.1 e e0 e1).1; exact ⟨by omega, by omega⟩
  by_cases ho : 0 ≤ sq9_ xs (i + 1) ∧ sq9_ xs (i + 1) < L.length
  · have hB : (gE L (sq9_ xs (i + 1))).1 0 ≠ 1 → (gE L (sq9_ xs (i + 1))).2.2.2 = [] := by
      rcases hc with ⟨_, hz⟩ | ⟨_, hz⟩
      · have := ho.2; rw [hz] at this; exact absurd this (by simp; omega)
      · exact gE_of (Pr := nbd_) hz.2.2.2 (fun _ => rfl) _
    refine jj_aload_n h d_L_law_516 rfl ⟨_, rfl⟩ ?_
    refine jj_aload_n h d_L_law_517 rfl ⟨_, rfl⟩ ?_
    refine jj_iload h d_L_law_518 rfl ?_
    refine jj_iconst h d_L_law_520 ?_
    refine jj_iadd h d_L_law_521 ?_
    refine jj_sc h he hN (by omega) (by omega) d_L_law_522 ?_
    refine jj_aload_n h d_L_law_523 rfl ⟨_, rfl⟩ ?_
    refine jj_iload h d_L_law_524 rfl ?_
    refine jj_iconst h d_L_law_526 ?_
    refine jj_iadd h d_L_law_527 ?_
    refine jj_sc h he hN (by omega) (by omega) d_L_law_528 ?_
    refine jj_aload_n h d_L_law_529 rfl ⟨_, rfl⟩ ?_
    refine jj_callW h (np := 4) (cL_boundary0 hC ho.1 ho.2 (sq9_r xs (i + 2)) hB) wm_L_82 wt_L_boundary wc_L_boundary wi_L ⟨⟨by decide, by decide⟩, by decide +kernel⟩ (ro_oL he (by decide) (by decide) (by omega) (by omega)) rfl rfl rfl (Nat.le_of_ble_eq_true rfl) d_L_law_530 (fun v m530 hv => ?_)
    obtain ⟨rfl, rfl⟩ := hv
    refine jj_istore h d_L_law_533 (Nat.le_of_ble_eq_true rfl) rfl ?_
    refine jj_aload_n h d_L_law_535 rfl ⟨_, rfl⟩ ?_
    refine jj_aload_n h d_L_law_536 rfl ⟨_, rfl⟩ ?_
    refine jj_iload h d_L_law_537 rfl ?_
    refine jj_iconst h d_L_law_539 ?_
    refine jj_iadd h d_L_law_540 ?_
    refine jj_sc h he hN (by omega) (by omega) d_L_law_541 ?_
    refine jj_aload_n h d_L_law_542 rfl ⟨_, rfl⟩ ?_
    refine jj_iload h d_L_law_543 rfl ?_
    refine jj_iconst h d_L_law_545 ?_
    refine jj_iadd h d_L_law_546 ?_
    refine jj_sc h he hN (by omega) (by omega) d_L_law_547 ?_
    refine jj_callV h (cM_boundary (hR.mv (st_ne (by decide)) (st_ne (by decide)) (st_row (by decide)) (st_row (by decide)) (st_row (by decide))) (sq9_r xs (i + 1)) (sq9_r xs (i + 2)) hkd) cv_L_84 (ro_oL he (by decide) (by decide) (by omega) (by omega)) rfl rfl (by decide) rfl rfl rfl (Nat.le_of_ble_eq_true rfl) d_L_law_548 (fun v m548 hv => ?_)
    obtain ⟨rfl, rfl⟩ := hv.1 ho
    refine jj_istore h d_L_law_551 (Nat.le_of_ble_eq_true rfl) rfl ?_
    refine jj_aload_n h d_L_law_553 rfl ⟨_, rfl⟩ ?_
    refine jj_callV h (cM_thrown) cv_L_68 (ro_oL he (by decide) (by decide) (by omega) (by omega)) rfl rfl (by decide) rfl rfl rfl (Nat.le_of_ble_eq_true rfl) d_L_law_554 (fun v m554 hv => ?_)
    obtain ⟨rfl, rfl⟩ := hv
    rw [st_same]
    refine jj_iload h d_L_law_557 rfl ?_
    refine jj_icmp_eq h 564 d_L_law_559 (by decide) ⟨by decide, by decide⟩ ⟨by decide, by decide⟩ (fun _ => ?_) (fun q559 => absurd (rfl) q559)
    refine jj_iload h d_L_law_564 rfl ?_
    refine jj_if_ne h 581 d_L_law_566 (by decide) ⟨by decide, by decide⟩ (fun q566 => absurd (rfl) q566) (fun _ => ?_)
    refine jj_aload_n h d_L_law_569 rfl ⟨_, rfl⟩ ?_
    refine jj_iconst h d_L_law_570 ?_
    refine jj_laload h d_L_law_571 ?_
    rw [st_row (by decide), st_same]
    refine jj_iload h d_L_law_572 rfl ?_
    refine jj_i2l h d_L_law_574 ?_
    refine jj_lcmp h d_L_law_575 ?_
    rw [lg_eq]
    refine jj_if_eq h 581 d_L_law_576 (by decide) ⟨by decide, by decide⟩ (fun _ => ?_) (fun q576 => absurd (rfl) q576)
    refine jj_goto h 666 d_L_law_581 (by decide) ?_
    exact kk _ _ _ _ _ (by omega) (by omega) ((hI.out _).th _)
  · skip
    refine jj_aload_n h d_L_law_516 rfl ⟨_, rfl⟩ ?_
    refine jj_aload_n h d_L_law_517 rfl ⟨_, rfl⟩ ?_
    refine jj_iload h d_L_law_518 rfl ?_
    refine jj_iconst h d_L_law_520 ?_
    refine jj_iadd h d_L_law_521 ?_
    refine jj_sc h he hN (by omega) (by omega) d_L_law_522 ?_
    refine jj_aload_n h d_L_law_523 rfl ⟨_, rfl⟩ ?_
    refine jj_iload h d_L_law_524 rfl ?_
    refine jj_iconst h d_L_law_526 ?_
    refine jj_iadd h d_L_law_527 ?_
    refine jj_sc h he hN (by omega) (by omega) d_L_law_528 ?_
    refine jj_aload_n h d_L_law_529 rfl ⟨_, rfl⟩ ?_
    refine jj_callW h (np := 4) (cL_boundary1 hl9 hC (sq9_r xs (i + 1)) ho) wm_L_82 wt_L_boundary wc_L_boundary wi_L ⟨⟨by decide, by decide⟩, by decide +kernel⟩ (ro_oL he (by decide) (by decide) (by omega) (by omega)) rfl rfl rfl (Nat.le_of_ble_eq_true rfl) d_L_law_530 (fun v m530 hv => ?_)
    obtain ⟨rfl, rfl⟩ := hv
    refine jj_istore h d_L_law_533 (Nat.le_of_ble_eq_true rfl) rfl ?_
    refine jj_aload_n h d_L_law_535 rfl ⟨_, rfl⟩ ?_
    refine jj_aload_n h d_L_law_536 rfl ⟨_, rfl⟩ ?_
    refine jj_iload h d_L_law_537 rfl ?_
    refine jj_iconst h d_L_law_539 ?_
    refine jj_iadd h d_L_law_540 ?_
    refine jj_sc h he hN (by omega) (by omega) d_L_law_541 ?_
    refine jj_aload_n h d_L_law_542 rfl ⟨_, rfl⟩ ?_
    refine jj_iload h d_L_law_543 rfl ?_
    refine jj_iconst h d_L_law_545 ?_
    refine jj_iadd h d_L_law_546 ?_
    refine jj_sc h he hN (by omega) (by omega) d_L_law_547 ?_
    refine jj_callV h (cM_boundary hR (sq9_r xs (i + 1)) (sq9_r xs (i + 2)) hkd) cv_L_84 (ro_oL he (by decide) (by decide) (by omega) (by omega)) rfl rfl (by decide) rfl rfl rfl (Nat.le_of_ble_eq_true rfl) d_L_law_548 (fun v m548 hv => ?_)
    obtain ⟨rfl, rfl⟩ := hv.2 ho
    refine jj_istore h d_L_law_551 (Nat.le_of_ble_eq_true rfl) rfl ?_
    refine jj_aload_n h d_L_law_553 rfl ⟨_, rfl⟩ ?_
    refine jj_callV h (cM_thrown) cv_L_68 (ro_oL he (by decide) (by decide) (by omega) (by omega)) rfl rfl (by decide) rfl rfl rfl (Nat.le_of_ble_eq_true rfl) d_L_law_554 (fun v m554 hv => ?_)
    obtain ⟨rfl, rfl⟩ := hv
    rw [st_same]
    refine jj_iload h d_L_law_557 rfl ?_
    refine jj_icmp_eq h 564 d_L_law_559 (by decide) ⟨by decide, by decide⟩ ⟨by decide, by decide⟩ (fun _ => ?_) (fun q559 => absurd (rfl) q559)
    refine jj_iload h d_L_law_564 rfl ?_
    refine jj_if_ne h 581 d_L_law_566 (by decide) ⟨by decide, by decide⟩ (fun _ => ?_) (fun q566 => absurd q566 ((by decide)))
    refine jj_goto h 666 d_L_law_581 (by decide) ?_
    exact kk _ _ _ _ _ (by omega) (by omega) (hI.th _)
theorem lw_op9 {G : mt_G} {X : mt_X} {own : String} {b N k n : Nat} {xs : Nat → Int32} {mem : mt_M} {i : Int} {a5 a6 : Option Value} (h : OK G X c_L_law own 7) (hown : own = R_L) (he : OL G X b N xs) (hN : N ≤ 2560) (hI : IV mem) (i0 : 0 ≤ i) (i5 : i + 5 ≤ N) (hk : k + 1 ≤ 601024) (hn : n + 6 ≤ 7293034)
    (kk : ∀ (k' n' : Nat) (m' : mt_M) (b5 b6 : Option Value), k' ≤ k + 1 → n' ≤ n + 6 → IV m' → JJ G X k' n' m' 666 [some (.ref b), some (vr G 0), some (vr G 182), some (vr G 194), some (vi i), b5, b6] []) : JJ G X k n mem 584 [some (.ref b), some (vr G 0), some (vr G 182), some (vr G 194), some (vi i), a5, a6] [] := by
  subst hown
  obtain ⟨L, hC, hR, hc⟩ := hI.2.2
  have hl9 := ol_l he
  rcases hc with ⟨hr, hz⟩ | ⟨hr, hz⟩
  · have c0 : mem 17 7 = 0 := by rw [hC.1, hz]; rfl
    refine jj_aload_n h d_L_law_584 rfl ⟨_, rfl⟩ ?_
    refine jj_aload_n h d_L_law_585 rfl ⟨_, rfl⟩ ?_
    refine jj_callW h (np := 2) (cL_write1 (L := []) hl9 c0) wm_L_85 wt_L_write wc_L_write wi_L ⟨⟨by decide, by decide⟩, by decide +kernel⟩ (ro_oL he (by decide) (by decide) (by omega) (by omega)) rfl rfl rfl (Nat.le_of_ble_eq_true rfl) d_L_law_586 (fun v m586 hv => ?_)
    obtain ⟨rfl, hm⟩ := hv
    refine jj_istore h d_L_law_589 (Nat.le_of_ble_eq_true rfl) rfl ?_
    refine jj_aload_n h d_L_law_591 rfl ⟨_, rfl⟩ ?_
    refine jj_callV h (cM_write0 (by rw [hm 182 (by decide) (by decide)]; exact hr)) cv_L_88 (ro_oL he (by decide) (by decide) (by omega) (by omega)) rfl rfl (by decide) rfl rfl rfl (Nat.le_of_ble_eq_true rfl) d_L_law_592 (fun v m592 hv => ?_)
    obtain ⟨rfl, rfl⟩ := hv
    refine jj_istore h d_L_law_595 (Nat.le_of_ble_eq_true rfl) rfl ?_
    refine jj_aload_n h d_L_law_597 rfl ⟨_, rfl⟩ ?_
    refine jj_callV h (cM_thrown) cv_L_68 (ro_oL he (by decide) (by decide) (by omega) (by omega)) rfl rfl (by decide) rfl rfl rfl (Nat.le_of_ble_eq_true rfl) d_L_law_598 (fun v m598 hv => ?_)
    obtain ⟨rfl, rfl⟩ := hv
    rw [st_same]
    refine jj_iload h d_L_law_601 rfl ?_
    refine jj_icmp_eq h 608 d_L_law_603 (by decide) ⟨by decide, by decide⟩ ⟨by decide, by decide⟩ (fun _ => ?_) (fun q603 => absurd (rfl) q603)
    refine jj_iload h d_L_law_608 rfl ?_
    refine jj_if_ne h 625 d_L_law_610 (by decide) ⟨by decide, by decide⟩ (fun _ => ?_) (fun q610 => absurd q610 ((by decide)))
    refine jj_goto h 666 d_L_law_625 (by decide) ?_
    exact kk _ _ _ _ _ (by omega) (by omega) ((hI.mov (fun r a b _ _ => hm r a b) (fun z _ => by rw [hm 182 (by decide) (by decide)])).th _)
  · obtain ⟨t1, t2, t3, t4⟩ := hz
    by_cases hle : 700 < (wrT L).length
    · skip
      refine jj_aload_n h d_L_law_584 rfl ⟨_, rfl⟩ ?_
      refine jj_aload_n h d_L_law_585 rfl ⟨_, rfl⟩ ?_
      refine jj_callW h (np := 2) (cL_write2 hl9 hC t1.kb t1.ti t2 rfl hle) wm_L_85 wt_L_write wc_L_write wi_L ⟨⟨by decide, by decide⟩, by decide +kernel⟩ (ro_oL he (by decide) (by decide) (by omega) (by omega)) rfl rfl rfl (Nat.le_of_ble_eq_true rfl) d_L_law_586 (fun v m586 hv => ?_)
      obtain ⟨rfl, hm⟩ := hv
      refine jj_istore h d_L_law_589 (Nat.le_of_ble_eq_true rfl) rfl ?_
      refine jj_aload_n h d_L_law_591 rfl ⟨_, rfl⟩ ?_
      refine jj_callV h (cM_write (by rw [hm 182 (by decide) (by decide)]; exact hr) (hR.mv (by rw [hm 182 (by decide) (by decide)]) (by rw [hm 182 (by decide) (by decide)]) (hm _ (by decide) (by decide)) (hm _ (by decide) (by decide)) (hm _ (by decide) (by decide))) t1.kb t1.ti t2 t3 rfl) cv_L_88 (ro_oL he (by decide) (by decide) (by omega) (by omega)) rfl rfl (by decide) rfl rfl rfl (Nat.le_of_ble_eq_true rfl) d_L_law_592 (fun v m592 hv => ?_)
      obtain ⟨hZ, hv1, -⟩ := hv
      obtain ⟨rfl, thr, v1, v2⟩ := hv1 hle
      refine jj_istore h d_L_law_595 (Nat.le_of_ble_eq_true rfl) rfl ?_
      refine jj_aload_n h d_L_law_597 rfl ⟨_, rfl⟩ ?_
      refine jj_callV h (cM_thrown) cv_L_68 (ro_oL he (by decide) (by decide) (by omega) (by omega)) rfl rfl (by decide) rfl rfl rfl (Nat.le_of_ble_eq_true rfl) d_L_law_598 (fun v m598 hv => ?_)
      obtain ⟨rfl, rfl⟩ := hv
      rw [thr]
      refine jj_iload h d_L_law_601 rfl ?_
      refine jj_icmp_eq h 608 d_L_law_603 (by decide) ⟨by decide, by decide⟩ ⟨by decide, by decide⟩ (fun _ => ?_) (fun q603 => absurd (rfl) q603)
      refine jj_iload h d_L_law_608 rfl ?_
      refine jj_if_ne h 625 d_L_law_610 (by decide) ⟨by decide, by decide⟩ (fun _ => ?_) (fun q610 => absurd q610 ((by decide)))
      refine jj_goto h 666 d_L_law_625 (by decide) ?_
      exact kk _ _ _ _ _ (by omega) (by omega) (hI.full hm hZ v1 v2)
    · skip
      refine jj_aload_n h d_L_law_584 rfl ⟨_, rfl⟩ ?_
      refine jj_aload_n h d_L_law_585 rfl ⟨_, rfl⟩ ?_
      refine jj_callW h (np := 2) (cL_write0 hC t1.kb t1.ti t2 rfl (Nat.le_of_not_lt hle)) wm_L_85 wt_L_write wc_L_write wi_L ⟨⟨by decide, by decide⟩, by decide +kernel⟩ (ro_oL he (by decide) (by decide) (by omega) (by omega)) rfl rfl rfl (Nat.le_of_ble_eq_true rfl) d_L_law_586 (fun v m586 hv => ?_)
      obtain ⟨rfl, w0, w1, w2, w3, w4⟩ := hv
      refine jj_istore h d_L_law_589 (Nat.le_of_ble_eq_true rfl) rfl ?_
      refine jj_aload_n h d_L_law_591 rfl ⟨_, rfl⟩ ?_
      refine jj_callV h (cM_write (by rw [w4 182 (by decide) (by decide) (by decide) (by decide) (by decide)]; exact hr) (hR.mv (by rw [w4 182 (by decide) (by decide) (by decide) (by decide) (by decide)]) (by rw [w4 182 (by decide) (by decide) (by decide) (by decide) (by decide)]) (w4 _ (by decide) (by decide) (by decide) (by decide) (by decide)) (w4 _ (by decide) (by decide) (by decide) (by decide) (by decide)) (w4 _ (by decide) (by decide) (by decide) (by decide) (by decide))) t1.kb t1.ti t2 t3 rfl) cv_L_88 (ro_oL he (by decide) (by decide) (by omega) (by omega)) rfl rfl (by decide) rfl rfl rfl (Nat.le_of_ble_eq_true rfl) d_L_law_592 (fun v m592 hv => ?_)
      obtain ⟨hZ, -, hv1⟩ := hv
      obtain ⟨rfl, thr, v1, v2⟩ := hv1 hle
      have o194 : m592 194 0 = i2l_ ((wrT L).length : Int) := by rw [hZ.2 194 (by decide) (by decide) (by decide) (by decide) (by decide)]; exact w0
      refine jj_istore h d_L_law_595 (Nat.le_of_ble_eq_true rfl) rfl ?_
      refine jj_aload_n h d_L_law_597 rfl ⟨_, rfl⟩ ?_
      refine jj_callV h (cM_thrown) cv_L_68 (ro_oL he (by decide) (by decide) (by omega) (by omega)) rfl rfl (by decide) rfl rfl rfl (Nat.le_of_ble_eq_true rfl) d_L_law_598 (fun v m598 hv => ?_)
      obtain ⟨rfl, rfl⟩ := hv
      rw [thr]
      refine jj_iload h d_L_law_601 rfl ?_
      refine jj_icmp_eq h 608 d_L_law_603 (by decide) ⟨by decide, by decide⟩ ⟨by decide, by decide⟩ (fun _ => ?_) (fun q603 => absurd (rfl) q603)
      refine jj_iload h d_L_law_608 rfl ?_
      refine jj_if_ne h 625 d_L_law_610 (by decide) ⟨by decide, by decide⟩ (fun q610 => absurd (rfl) q610) (fun _ => ?_)
      refine jj_aload_n h d_L_law_613 rfl ⟨_, rfl⟩ ?_
      refine jj_iconst h d_L_law_614 ?_
      refine jj_laload h d_L_law_615 ?_
      rw [o194]
      refine jj_iload h d_L_law_616 rfl ?_
      refine jj_i2l h d_L_law_618 ?_
      refine jj_lcmp h d_L_law_619 ?_
      rw [lg_eq]
      refine jj_if_eq h 625 d_L_law_620 (by decide) ⟨by decide, by decide⟩ (fun _ => ?_) (fun q620 => absurd (rfl) q620)
      refine jj_goto h 666 d_L_law_625 (by decide) ?_
      exact kk _ _ _ _ _ (by omega) (by omega) (hI.wrote w1 w2 w3 w4 hZ v1 v2)
theorem lw_op10 {G : mt_G} {X : mt_X} {own : String} {b N k n : Nat} {xs : Nat → Int32} {mem : mt_M} {i : Int} {a5 a6 : Option Value} (h : OK G X c_L_law own 7) (hown : own = R_L) (he : OL G X b N xs) (hN : N ≤ 2560) (hI : IV mem) (i0 : 0 ≤ i) (i5 : i + 5 ≤ N) (hk : k + 1 ≤ 601024) (hn : n + 6 ≤ 7293034)
    (kk : ∀ (k' n' : Nat) (m' : mt_M) (b5 b6 : Option Value), k' ≤ k + 1 → n' ≤ n + 6 → IV m' → JJ G X k' n' m' 666 [some (.ref b), some (vr G 0), some (vr G 182), some (vr G 194), some (vi i), b5, b6] []) : JJ G X k n mem 628 [some (.ref b), some (vr G 0), some (vr G 182), some (vr G 194), some (vi i), a5, a6] [] := by
  subst hown
  have hL := hI.2.1
  have hs0 := hL.1.2.1
  have hs1 : mem 2 1 ≤ 700 := hL.1.2.2.1
  have eq : bA_ mem 2 (sq9_ xs (i + 1)) = if 0 ≤ sq9_ xs (i + 1) ∧ sq9_ xs (i + 1) < mem 182 20 then mem 191 (sq9_ xs (i + 1)) else -1 := by
    unfold bA_
    rw [hL.2.1]
    split
    · rename_i hz; exact (hL.2.2 _ hz.1 hz.2).symm
    · rfl
  have hb : r32 (bA_ mem 2 (sq9_ xs (i + 1))) := by
    unfold bA_
    split
    · rename_i hz; have := hL.1.2.2.2 _ hz.1 hz.2; exact ⟨by omega, by omega⟩
    · exact ⟨by decide, by decide⟩
  refine jj_aload_n h d_L_law_628 rfl ⟨_, rfl⟩ ?_
  refine jj_aload_n h d_L_law_629 rfl ⟨_, rfl⟩ ?_
  refine jj_iload h d_L_law_630 rfl ?_
  refine jj_iconst h d_L_law_632 ?_
  refine jj_iadd h d_L_law_633 ?_
  refine jj_sc h he hN (by omega) (by omega) d_L_law_634 ?_
  refine jj_callV h (cX_written hs0 hs1 (sq9_r xs (i + 1))) cv_L_89 (ro_oL he (by decide) (by decide) (by omega) (by omega)) rfl rfl (by decide) rfl rfl rfl (Nat.le_of_ble_eq_true rfl) d_L_law_635 (fun v m635 hv => ?_)
  obtain ⟨rfl, rfl⟩ := hv
  refine jj_aload_n h d_L_law_638 rfl ⟨_, rfl⟩ ?_
  refine jj_aload_n h d_L_law_639 rfl ⟨_, rfl⟩ ?_
  refine jj_iload h d_L_law_640 rfl ?_
  refine jj_iconst h d_L_law_642 ?_
  refine jj_iadd h d_L_law_643 ?_
  refine jj_sc h he hN (by omega) (by omega) d_L_law_644 ?_
  refine jj_callV h (cM_written (by rw [hL.2.1]; exact hs0) (by rw [hL.2.1]; exact hs1) (sq9_r xs (i + 1))) cv_L_93 (ro_oL he (by decide) (by decide) (by omega) (by omega)) rfl rfl (by decide) rfl rfl rfl (Nat.le_of_ble_eq_true rfl) d_L_law_645 (fun v m645 hv => ?_)
  rw [← eq] at hv
  obtain ⟨rfl, rfl⟩ := hv
  refine jj_icmp_eq h 666 d_L_law_648 (by decide) hb hb (fun _ => ?_) (fun q648 => absurd (rfl) q648)
  exact kk _ _ _ _ _ (by omega) (by omega) (hI.th 0)
theorem lw_op11 {G : mt_G} {X : mt_X} {own : String} {b N k n : Nat} {xs : Nat → Int32} {mem : mt_M} {i : Int} {a5 a6 : Option Value} (h : OK G X c_L_law own 7) (hown : own = R_L) (he : OL G X b N xs) (hN : N ≤ 2560) (hI : IV mem) (i0 : 0 ≤ i) (i5 : i + 5 ≤ N) (hk : k + 1 ≤ 601024) (hn : n + 6 ≤ 7293034)
    (kk : ∀ (k' n' : Nat) (m' : mt_M) (b5 b6 : Option Value), k' ≤ k + 1 → n' ≤ n + 6 → IV m' → JJ G X k' n' m' 666 [some (.ref b), some (vr G 0), some (vr G 182), some (vr G 194), some (vi i), b5, b6] []) : JJ G X k n mem 653 [some (.ref b), some (vr G 0), some (vr G 182), some (vr G 194), some (vi i), a5, a6] [] := by
  subst hown
  have hL := hI.2.1
  have hs0 := hL.1.2.1
  have hs1 : mem 2 1 ≤ 700 := hL.1.2.2.1
  refine jj_aload_n h d_L_law_653 rfl ⟨_, rfl⟩ ?_
  refine jj_callV h (cX_again hL.1) cv_L_94 (ro_oL he (by decide) (by decide) (by omega) (by omega)) rfl rfl (by decide) rfl rfl rfl (Nat.le_of_ble_eq_true rfl) d_L_law_654 (fun v m654 hv => ?_)
  obtain ⟨rfl, p1, p2, p3, p4⟩ := hv
  have e20 : m654 182 20 = mem 2 1 := by rw [p4 182 (by decide) (by decide)]; exact hL.2.1
  refine jj_aload_n h d_L_law_657 rfl ⟨_, rfl⟩ ?_
  refine jj_callV h (cM_again (N := min (mem 2 1) 320) (by rw [e20]; exact hs0) (by rw [e20]; exact hs1) (by rw [e20]; split <;> omega)) cv_L_97 (ro_oL he (by decide) (by decide) (by omega) (by omega)) rfl rfl (by decide) rfl rfl rfl (Nat.le_of_ble_eq_true rfl) d_L_law_658 (fun v m658 hv => ?_)
  obtain ⟨rfl, rfl⟩ := hv
  refine jj_icmp_eq h 666 d_L_law_661 (by decide) ⟨by omega, by omega⟩ ⟨by omega, by omega⟩ (fun _ => ?_) (fun q661 => absurd (rfl) q661)
  exact kk _ _ _ _ _ (by omega) (by omega) (hI.again rfl p1 p2 p3 p4)
