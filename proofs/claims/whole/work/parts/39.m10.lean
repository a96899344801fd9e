/-! The reference: kind. -/
/-- kind and boundary -/
def kndO_ (o : Option (List Int)) (dep : Int) : Int × List Int := match o with
  | none => (0, [])
  | some L => if dep = 4 then (0, []) else knd L
def fK_ (mem : mt_M) (e : Int) (m : mt_M) : Prop := mem 182 9 ≤ m 182 9 ∧ ∀ (r : Nat) (z : Int), (r ≠ 187 ∨ z < mem 182 9) → (r ≠ 182 ∨ (z ≠ 13 ∧ z ≠ 14 ∧ z ≠ 15 ∧ z ≠ 16 ∧ z ≠ 9)) → (r ≠ 185 ∨ (z ≠ 16 * e + 11 ∧ z ≠ 16 * e + 12)) → m r z = mem r z
def kP_ (mem : mt_M) (e B : Int) (K : Int × List Int) (v : Option Value) (m' : mt_M) : Prop := v = some (vi K.1) ∧ fK_ mem e m' ∧ by_ (m' 187) 0 (m' 182 9) ∧ m' 182 9 ≤ mem 182 9 + B ∧ (K.1 = 1 → 0 ≤ m' 185 (16 * e + 11) ∧ m' 185 (16 * e + 12) = K.2.length ∧ m' 185 (16 * e + 11) + m' 185 (16 * e + 12) ≤ m' 182 9 ∧ slc (m' 187) (m' 185 (16 * e + 11)) (m' 185 (16 * e + 11) + m' 185 (16 * e + 12)) = K.2) ∧ (K.1 ≠ 1 → m' 185 = mem 185)
def mlk (k : Nat) (R : List Int) : Int × List Int := match prs k R with
  | none => (0, [])
  | some b => if bd_ b then (1, b) else (0, [])
theorem fs_.row {a b : mt_M} (h : fs_ a b) {r : Nat} (h1 : r ≠ 187) (h2 : r ≠ 182) : b r = a r := by funext z; exact h.2 r z (Or.inl h1) (Or.inl h2)
theorem fs_.K {mem m : mt_M} {e B : Int} {K : Int × List Int} (h : fs_ mem m) (hb : by_ (m 187) 0 (m 182 9)) (hB : m 182 9 ≤ mem 182 9 + B) (hK : K.1 ≠ 1) {z : Int} (hz : z = K.1) : kP_ mem e B K (some (vi z)) m := ⟨by rw [hz], ⟨h.1, fun r z p q _ => h.2 r z p q⟩, hb, hB, fun q => absurd q hK, fun _ => h.row (by decide) (by decide)⟩
theorem cM_kind {G : mt_G} {l : Launch} {mem : mt_M} {e nf dep B : Int} {o : Option (List Int)} (ht : tb_ mem) (hf : fw_ mem e nf) (ho : fld_ mem e nf w_ctype o) (hd : mem 185 (16 * e + 1) = dep) (hd2 : r32 dep) (hB : ∀ f : Int, 0 ≤ f → f < nf → mem 186 (4 * (8 * e + f) + 3) + 20 ≤ B) (hB0 : 0 ≤ B) (hB2 : mem 182 9 + B ≤ 1400) : CT G l y_M_kind c_M_kind 8 (some .int) 6 [vr G 182, vi e] mem (kP_ mem e B (kndO_ o dep)) := by
  refine CT.intro (by decide) rfl (Nat.le_of_ble_eq_true rfl) (fun X h he => ?_)
  have f0 := hf.1
  have f1 := hf.2.1
  have tail : ∀ r : Int, 0 ≤ r → r < nf → o = some (fV_ mem e r) → dep ≠ 4 → JJ G X 0 0 mem 29 [some (vr G 182), some (vi e), some (vi r), none, none, none, none, none] [] := by
    intro r h0 h1 hr hdp
    subst hr
    have g := hf.2.2.2.2.2 r h0 h1
    have hbB := hB r h0 h1
    have hs := sL_enter ht hf h0 h1
    have ht0 := ht.1
    have ht1 := ht.2.1
    have hK : kndO_ (some (fV_ mem e r)) dep = knd (fV_ mem e r) := if_neg hdp
    rw [hK] at he
    clear hK ho
    generalize hs9 : mem 186 (4 * (8 * e + r) + 2) + mem 186 (4 * (8 * e + r) + 3) = s at *
    generalize hV : fV_ mem e r = V at *
    refine jj_aload_n h d_M_kind_29 rfl ⟨_, rfl⟩ ?_
    refine jj_iload_n h d_M_kind_30 rfl ?_
    refine jj_iload_n h d_M_kind_31 rfl ?_
    refine jj_callV h (cM_enter hf h0 h1) cv_M_133 (ro_of he (by decide) (by decide)) rfl rfl (by decide) rfl rfl rfl (Nat.le_of_ble_eq_true rfl) d_M_kind_32 (fun v m32 hv => ?_)
    obtain ⟨rfl, hm1⟩ := hv
    rw [hs9] at hm1
    rw [hm1] at hs
    have fe : fs_ mem m32 := by rw [← hm1]; exact fs_.enter
    have te : m32 182 9 = mem 182 9 := by rw [← hm1, st_ne (by decide), st_ne (by decide)]
    have ae : m32 182 13 = mem 186 (4 * (8 * e + r) + 2) := by rw [← hm1, st_ne (by decide), st_same]
    have be : by_ (m32 187) 0 (m32 182 9) := by rw [te, ← hm1, st_row (by decide), st_row (by decide)]; exact ht.2.2
    clear hm1
    have g0 : sg_ m32 s V m32 V := ⟨fr_.rf, rfl, hs, List.suffix_refl _⟩
    have fail : ∀ (m : mt_M) (L' : List Int), sg_ m32 s V m L' → (knd V).1 ≠ 1 → ∀ z : Int, z = (knd V).1 → kP_ mem e B (knd V) (some (vi z)) m := fun m L' hg hk z hz =>
      (fe.fr hg.1).K (hg.1.by hg.2.1 be) (by have := hg.2.1; omega) hk hz
    -- behind the subtype, the type is multipart
    have mult : ∀ (m : mt_M) (R : List Int), sg_ m32 s V m R → knd V = mlt (skp 0 R) → ∀ x y, JJ G X 0 0 m 141 [some (vr G 182), some (vi e), some (vi r), some (vi x), some (vi y), none, none, none] [] := by
      intro m R hg hk x y
      have kpl : ∀ (k : Nat) (q T1 a : Int) (w : List Int) (m0 m : mt_M) (x y z : Int), (w.length - q).toNat = k → 0 ≤ q → q ≤ w.length → (w.length : Int) ≤ 20 → knd V = (1, w) → by_ (m0 187) 0 T1 → 0 ≤ a → a + w.length ≤ T1 → slc (m0 187) a (a + w.length) = w → fK_ mem e m0 → m0 182 9 = T1 → T1 + 20 ≤ mem 182 9 + B → m0 185 (16 * e + 11) = T1 → m0 185 (16 * e + 12) = w.length → m0 182 16 = w.length → 
          (∀ (r : Nat) (z : Int), (r ≠ 187 ∨ z < T1) → (r ≠ 182 ∨ z ≠ 9) → m r z = m0 r z) → m 182 9 = T1 + q → by_ (m 187) 0 (m 182 9) → slc (m 187) T1 (T1 + q) = slc (m0 187) a (a + q) →
          JJ G X 0 0 m 209 [some (vr G 182), some (vi e), some (vi r), some (vi x), some (vi y), some (vi z), some (vi a), some (vi q)] [] := by
        intro k
        induction k with
        | zero =>
          intro q T1 a w m0 m x y z k1 k2 k3 k4 k5 k6 k7 k8 k9 k10 k11 k12 k13 k14 k15 k16 k17 k18 k19
          have e1 : m 182 16 = w.length := by rw [k16 _ _ (Or.inl (by decide)) (Or.inr (by decide))]; exact k15
          have hq : q = w.length := by omega
          subst hq
          rw [k9] at k19
          have d1 : m 185 (16 * e + 11) = T1 := by rw [k16 _ _ (Or.inl (by decide)) (Or.inl (by decide))]; exact k13
          have d2 : m 185 (16 * e + 12) = w.length := by rw [k16 _ _ (Or.inl (by decide)) (Or.inl (by decide))]; exact k14
          have hm0 := k10.1
          refine jj_iload h d_M_kind_209 rfl ?_
          refine jj_aload_n h d_M_kind_211 rfl ⟨_, rfl⟩ ?_
          refine jj_g_M_wordSize h  fl_M_112 d_M_kind_212 ?_
          try simp only [e1]
          refine jj_icmp_ge h 238 d_M_kind_215 (by decide) ⟨by omega, by omega⟩ ⟨by omega, by omega⟩ (fun _ => ?_) (fun q215 => absurd (by omega) q215)
          refine jj_iconst h d_M_kind_238 ?_
          refine jj_iret h he d_M_kind_239 ?_
          refine ⟨by rw [k5], ⟨by omega, fun r z p q w => ?_⟩, k18, by omega, fun _ => ⟨by omega, by rw [k5]; exact d2, by omega, by rw [d1, d2, k5]; exact k19⟩, fun z => absurd (by rw [k5]) z⟩
          rw [k16 r z (by rcases p with p | p; exact Or.inl p; exact Or.inr (by omega)) (by rcases q with q | q; exact Or.inl q; exact Or.inr q.2.2.2.2)]
          exact k10.2 r z p q w
        | succ k ih =>
          intro q T1 a w m0 m x y z k1 k2 k3 k4 k5 k6 k7 k8 k9 k10 k11 k12 k13 k14 k15 k16 k17 k18 k19
          have e1 : m 182 16 = w.length := by rw [k16 _ _ (Or.inl (by decide)) (Or.inr (by decide))]; exact k15
          have e2 : m 187 (a + q) = m0 187 (a + q) := k16 _ _ (Or.inr (by omega)) (Or.inl (by decide))
          have hby := k6 (a + q) (by omega) (by omega)
          have hm0 := k10.1
          refine jj_iload h d_M_kind_209 rfl ?_
          refine jj_aload_n h d_M_kind_211 rfl ⟨_, rfl⟩ ?_
          refine jj_g_M_wordSize h  fl_M_112 d_M_kind_212 ?_
          try simp only [e1, e2]
          refine jj_icmp_ge h 238 d_M_kind_215 (by decide) ⟨by omega, by omega⟩ ⟨by omega, by omega⟩ (fun q215 => absurd q215 (by omega)) (fun _ => ?_)
          refine jj_aload_n h d_M_kind_218 rfl ⟨_, rfl⟩ ?_
          refine jj_aload_n h d_M_kind_219 rfl ⟨_, rfl⟩ ?_
          refine jj_g_M_text h  fl_M_22 d_M_kind_220 ?_
          try simp only [e1, e2]
          refine jj_iload h d_M_kind_223 rfl ?_
          refine jj_iload h d_M_kind_225 rfl ?_
          refine jj_iadd h d_M_kind_227 ?_
          refine jj_iaload (N := 1400) h (by decide) rfl (by decide) (by omega) (by omega) d_M_kind_228 ?_
          try simp only [e1, e2]
          refine jj_callV h (cM_keep (by omega) (by omega)) cv_M_66 (ro_of he (by decide) (by decide)) rfl rfl (by decide) rfl rfl rfl (Nat.le_of_ble_eq_true rfl) d_M_kind_229 (fun v m229 hv => ?_)
          obtain ⟨rfl, rfl⟩ := hv
          refine jj_iinc h d_M_kind_232 rfl rfl ?_
          refine jj_goto h 209 d_M_kind_235 (by decide) ?_
          refine ih (q + 1) T1 a w m0 _ x y z (by omega) (by omega) (by omega) k4 k5 k6 k7 k8 k9 k10 k11 k12 k13 k14 k15 (fun r z p q => ?_) ?_ (k1_by hby k18) ?_
          · rw [k1_at, if_neg (by rintro ⟨rfl, rfl⟩; rcases q with q | q; exact q rfl; exact q rfl), if_neg (by rintro ⟨rfl, rfl⟩; rcases p with p | p; exact p rfl; omega)]
            exact k16 r z p q
          · rw [k1_at, if_pos (by decide)]; omega
          · have e4 := k1_slc (c := m0 187 (a + q)) (p := T1) (by omega : T1 ≤ m 182 9) rfl
            rw [k17] at e4
            rw [show T1 + (q + 1) = T1 + q + 1 by omega, e4, show a + (q + 1) = a + q + 1 by omega, slc_snoc (by omega), k19]
      have bnd : ∀ (m : mt_M) (w : List Int) (x y : Int), fr_ m32 m → m 182 9 + 20 ≤ mem 182 9 + B → s ≤ m 182 9 → by_ (m 187) 0 (m 182 9) → 0 ≤ m 182 15 → m 182 16 = w.length → m 182 15 + m 182 16 ≤ m 182 9 → slc (m 187) (m 182 15) (m 182 15 + m 182 16) = w → (knd V = if bd_ w then (1, w) else (0, [])) → JJ G X 0 0 m 169 [some (vr G 182), some (vi e), some (vi r), some (vi x), some (vi y), some (vi 2), none, none] [] := by
        intro m w x y b1 b2 b3 b4 b5 b6 b7 b8 b9
        have b10 := b1.1
        refine jj_aload_n h d_M_kind_169 rfl ⟨_, rfl⟩ ?_
        refine jj_callV h (cM_isBoundary b5 b6 (by omega) (b4.sub b5 b7) b8) cv_M_169 (ro_of he (by decide) (by decide)) rfl rfl (by decide) rfl rfl rfl (Nat.le_of_ble_eq_true rfl) d_M_kind_170 (fun v m170 hv => ?_)
        obtain ⟨rfl, rfl⟩ := hv
        refine jj_if_ne h 178 d_M_kind_173 (by decide) ⟨by split <;> omega, by split <;> omega⟩ (fun q173 => ?_) (fun q173 => ?_)
        · have e1 : bd_ w = true := Decidable.byContradiction fun z => q173 (by rw [if_neg z])
          rw [if_pos e1] at b9
          have e2 := of_decide_eq_true e1
          refine jj_aload_n h d_M_kind_178 rfl ⟨_, rfl⟩ ?_
          refine jj_g_M_wordAt h  fl_M_106 d_M_kind_179 ?_
          try simp only [st_at, Nat.reduceEqDiff, Int.reduceEq, and_self, true_and, and_true, false_and, and_false, reduceIte]
          refine jj_istore h d_M_kind_182 (Nat.le_of_ble_eq_true rfl) rfl ?_
          refine jj_aload_n h d_M_kind_184 rfl ⟨_, rfl⟩ ?_
          refine jj_iload_n h d_M_kind_185 rfl ?_
          refine jj_bipush h d_M_kind_186 (by decide) ?_
          refine jj_aload_n h d_M_kind_188 rfl ⟨_, rfl⟩ ?_
          refine jj_g_M_textSize h  fl_M_56 d_M_kind_189 ?_
          try simp only [st_at, Nat.reduceEqDiff, Int.reduceEq, and_self, true_and, and_true, false_and, and_false, reduceIte]
          refine jj_callV h (cM_set (by omega) (by omega)) cv_M_70 (ro_of he (by decide) (by decide)) rfl rfl (by decide) rfl rfl rfl (Nat.le_of_ble_eq_true rfl) d_M_kind_192 (fun v m192 hv => ?_)
          obtain ⟨rfl, rfl⟩ := hv
          refine jj_aload_n h d_M_kind_195 rfl ⟨_, rfl⟩ ?_
          refine jj_iload_n h d_M_kind_196 rfl ?_
          refine jj_bipush h d_M_kind_197 (by decide) ?_
          refine jj_aload_n h d_M_kind_199 rfl ⟨_, rfl⟩ ?_
          refine jj_g_M_wordSize h  fl_M_112 d_M_kind_200 ?_
          try simp only [st_at, Nat.reduceEqDiff, Int.reduceEq, and_self, true_and, and_true, false_and, and_false, reduceIte]
          refine jj_callV h (cM_set (by omega) (by omega)) cv_M_70 (ro_of he (by decide) (by decide)) rfl rfl (by decide) rfl rfl rfl (Nat.le_of_ble_eq_true rfl) d_M_kind_203 (fun v m203 hv => ?_)
          obtain ⟨rfl, rfl⟩ := hv
          refine jj_iconst h d_M_kind_206 ?_
          refine jj_istore h d_M_kind_207 (Nat.le_of_ble_eq_true rfl) rfl ?_
          have d1 : fK_ mem e (st_ (st_ m 185 (16 * e + 11) (m 182 9)) 185 (16 * e + 12) (m 182 16)) := by
            have d2 := fe.fr b1
            refine ⟨by rw [st_ne (by omega), st_ne (by omega)]; exact d2.1, fun r z p q w9 => ?_⟩
            rw [st_ne (by omega), st_ne (by omega)]; exact d2.2 r z p q
          refine kpl _ 0 (m 182 9) (m 182 15) w _ _ x y 2 rfl (by omega) (by omega) (by omega) b9 (by rw [st_row (by decide), st_row (by decide)]; exact b4) b5 (by omega) (by rw [st_row (by decide), st_row (by decide), ← b6]; exact b8) d1 (by rw [st_ne (by omega), st_ne (by omega)]) (by omega) (by rw [st_ne (by omega), st_same]) (by rw [st_same]; exact b6) (by rw [st_ne (by omega), st_ne (by omega)]; exact b6) (fun _ _ _ _ => rfl) (by rw [st_ne (by omega), st_ne (by omega)]; omega) (by rw [st_row (by decide), st_row (by decide), st_ne (by omega), st_ne (by omega)]; exact b4) ?_
          rw [slc_nil (by omega), slc_nil (by omega)]
        · have e1 : ¬ bd_ w = true := fun z => by rw [if_pos z] at q173; omega
          rw [if_neg e1] at b9
          refine jj_iconst h d_M_kind_176 ?_
          refine jj_iret h he d_M_kind_177 ?_
          exact (fe.fr b1).K b4 (by omega) (by rw [b9]; decide) (by rw [b9])
      have pl : ∀ (n : Nat) (m : mt_M) (k : Nat) (R : List Int) (x y : Int), R.length = n → R.length ≤ k → fr_ m32 m → m 182 9 ≤ m32 182 9 + (m 182 13 - m32 182 13) → m32 182 13 ≤ m 182 13 → by_ (m 187) 0 (m 182 9) → sL m s R → knd V = mlk k R → JJ G X 0 0 m 148 [some (vr G 182), some (vi e), some (vi r), some (vi x), some (vi y), some (vi 1), none, none] [] := by
        intro n
        induction n using Nat.strongRecOn with
        | ind n ih =>
          intro m k R x y hn hk p1 p2 p3 p4 p5 p6
          have p7 := p1.1
          have p8 := p5.1.2.2
          refine jj_iload h d_M_kind_148 rfl ?_
          refine jj_iconst h d_M_kind_150 ?_
          refine jj_icmp_ne h 163 d_M_kind_151 (by decide) ⟨by omega, by omega⟩ ⟨by omega, by omega⟩ (fun q151 => absurd (by omega) q151) (fun _ => ?_)
          refine jj_aload_n h d_M_kind_154 rfl ⟨_, rfl⟩ ?_
          refine jj_callV h (cM_parameter p5 (by omega) (by omega) p4) cv_M_166 (ro_of he (by decide) (by decide)) rfl rfl (by decide) rfl rfl rfl (Nat.le_of_ble_eq_true rfl) d_M_kind_155 (fun v m155 hv => ?_)
          obtain ⟨v1, v2, v3, v4, v5, v6⟩ := hv
          have f1 := p1.trans v1
          have v13 := v1.1
          cases hp : par R with
          | none =>
            rw [hp] at v6
            subst v6
            have k1 : knd V = (0, []) := by
              rw [p6]; unfold mlk
              cases k with
              | zero => rfl
              | succ k => rw [show prs (k + 1) R = none by unfold prs; rw [hp]]
            refine jj_istore h d_M_kind_158 (Nat.le_of_ble_eq_true rfl) rfl ?_
            refine jj_goto h 148 d_M_kind_160 (by decide) ?_
            refine jj_iload h d_M_kind_148 rfl ?_
            refine jj_iconst h d_M_kind_150 ?_
            refine jj_icmp_ne h 163 d_M_kind_151 (by decide) ⟨by decide, by decide⟩ ⟨by decide, by decide⟩ (fun _ => ?_) (fun z => absurd z (by decide))
            refine jj_iload h d_M_kind_163 rfl ?_
            refine jj_iconst h d_M_kind_165 ?_
            refine jj_icmp_ne h 176 d_M_kind_166 (by decide) ⟨by decide, by decide⟩ ⟨by decide, by decide⟩ (fun _ => ?_) (fun z => absurd z (by decide))
            refine jj_iconst h d_M_kind_176 ?_
            refine jj_iret h he d_M_kind_177 ?_
            exact (fe.fr f1).K v5 (by omega) (by rw [k1]; decide) (by rw [k1])
          | some q =>
          rw [hp] at v6
          obtain ⟨rfl, v7, v8, v9, v10, v11, v12⟩ := v6
          have hl1 := p5.len
          have hl2 := v7.len
          obtain ⟨k, rfl⟩ : ∃ k', k = k' + 1 := ⟨k - 1, by omega⟩
          have p9 : prs (k + 1) R = if q.1 then some q.2.1 else prs k q.2.2 := by rw [prs]; rw [hp]
          refine jj_istore h d_M_kind_158 (Nat.le_of_ble_eq_true rfl) rfl ?_
          refine jj_goto h 148 d_M_kind_160 (by decide) ?_
          by_cases hqb : q.1 = true
          · rw [if_pos hqb]
            rw [if_pos hqb] at p9
            have k1 : knd V = if bd_ q.2.1 then (1, q.2.1) else (0, []) := by rw [p6]; unfold mlk; rw [p9]
            refine jj_iload h d_M_kind_148 rfl ?_
            refine jj_iconst h d_M_kind_150 ?_
            refine jj_icmp_ne h 163 d_M_kind_151 (by decide) ⟨by decide, by decide⟩ ⟨by decide, by decide⟩ (fun _ => ?_) (fun z => absurd z (by decide))
            refine jj_iload h d_M_kind_163 rfl ?_
            refine jj_iconst h d_M_kind_165 ?_
            refine jj_icmp_ne h 176 d_M_kind_166 (by decide) ⟨by decide, by decide⟩ ⟨by decide, by decide⟩ (fun z => absurd rfl z) (fun _ => ?_)
            exact bnd m155 q.2.1 x y f1 (by omega) (by omega) v5 v9 v10 v11 v12 k1
          · rw [if_neg hqb]
            rw [if_neg hqb] at p9
            exact ih _ (by omega) m155 k q.2.2 x y rfl (by omega) f1 (by omega) (by omega) v5 v7 (by rw [p6]; unfold mlk; rw [p9])
      have hl9 := hg.2.2.1.len
      have a9 := hg.at hs
      refine jj_aload_n h d_M_kind_141 rfl ⟨_, rfl⟩ ?_
      refine jj_callV h (cM_spaceL hg.2.2.1) cv_M_137 (ro_of he (by decide) (by decide)) rfl rfl (by decide) rfl rfl rfl (Nat.le_of_ble_eq_true rfl) d_M_kind_142 (fun v m142 hv => ?_)
      obtain ⟨rfl, q1, hs1, -, -⟩ := hv
      have g1 := hg.go q1 hs1 (skp_suf _ 0)
      have a1 := g1.at hs
      have t1 := g1.2.1
      refine jj_iconst h d_M_kind_145 ?_
      refine jj_istore h d_M_kind_146 (Nat.le_of_ble_eq_true rfl) rfl ?_
      exact pl _ m142 _ (skp 0 R) x y rfl (Nat.le_refl _) g1.1 (by omega) (by omega) (g1.1.by g1.2.1 be) hs1 hk
    refine jj_aload_n h d_M_kind_35 rfl ⟨_, rfl⟩ ?_
    refine jj_callV h (cM_spaceL hs) cv_M_137 (ro_of he (by decide) (by decide)) rfl rfl (by decide) rfl rfl rfl (Nat.le_of_ble_eq_true rfl) d_M_kind_36 (fun v m36 hv => ?_)
    obtain ⟨rfl, q1, hs1, -, -⟩ := hv
    have g1 := g0.go q1 hs1 (skp_suf _ 0)
    refine jj_aload_n h d_M_kind_39 rfl ⟨_, rfl⟩ ?_
    refine jj_callV h (cM_atomL hs1) cv_M_140 (ro_of he (by decide) (by decide)) rfl rfl (by decide) rfl rfl rfl (Nat.le_of_ble_eq_true rfl) d_M_kind_40 (fun v m40 hv => ?_)
    obtain ⟨rfl, q2, hs2, w1, w2, w3, w4, w5⟩ := hv
    have g2 := g1.go q2 hs2 (dw_suf _ _)
    refine jj_if_ne h 48 d_M_kind_43 (by decide) ⟨by split <;> omega, by split <;> omega⟩ (fun q43 => ?_) (fun q43 => ?_)
    · have e1 : ¬ (skp 0 V).takeWhile at_ = [] := fun z => q43 (by rw [if_pos z])
      have p1 : atm (skp 0 V) = some ((skp 0 V).takeWhile at_, (skp 0 V).dropWhile at_) := if_neg e1
      refine jj_aload_n h d_M_kind_48 rfl ⟨_, rfl⟩ ?_
      refine jj_g_M_wordAt h  fl_M_106 d_M_kind_49 ?_
      refine jj_istore_n h d_M_kind_52 (Nat.le_of_ble_eq_true rfl) rfl ?_
      refine jj_aload_n h d_M_kind_53 rfl ⟨_, rfl⟩ ?_
      refine jj_g_M_wordSize h  fl_M_112 d_M_kind_54 ?_
      refine jj_istore h d_M_kind_57 (Nat.le_of_ble_eq_true rfl) rfl ?_
      refine jj_aload_n h d_M_kind_59 rfl ⟨_, rfl⟩ ?_
      refine jj_callV h (cM_spaceL hs2) cv_M_137 (ro_of he (by decide) (by decide)) rfl rfl (by decide) rfl rfl rfl (Nat.le_of_ble_eq_true rfl) d_M_kind_60 (fun v m60 hv => ?_)
      obtain ⟨rfl, q3, hs3, -, -⟩ := hv
      have g3 := g2.go q3 hs3 (skp_suf _ 0)
      refine jj_aload_n h d_M_kind_63 rfl ⟨_, rfl⟩ ?_
      refine jj_bipush h d_M_kind_64 (by decide) ?_
      refine jj_callV h (cM_takesL hs3 (by decide)) cv_M_150 (ro_of he (by decide) (by decide)) rfl rfl (by decide) rfl rfl rfl (Nat.le_of_ble_eq_true rfl) d_M_kind_66 (fun v m66 hv => ?_)
      obtain ⟨q4, hv⟩ := hv
      cases hp2 : tk_ 47 (skp 0 ((skp 0 V).dropWhile at_)) with
      | none =>
        rw [hp2] at hv
        obtain ⟨rfl, rfl⟩ := hv
        refine jj_if_ne h 74 d_M_kind_69 (by decide) ⟨by decide, by decide⟩ (fun z => absurd rfl z) (fun _ => ?_)
        refine jj_iconst h d_M_kind_72 ?_
        refine jj_iret h he d_M_kind_73 ?_
        have k1 : knd V = (0, []) := by unfold knd; rw [p1]; show kn2 ((tk_ 47 _).bind _) = _; rw [hp2]; rfl
        exact fail m60 _ g3 (by rw [k1]; decide) 0 (by rw [k1])
      | some l2 =>
      rw [hp2] at hv
      obtain ⟨rfl, hs4⟩ := hv
      have g4 := g3.go q4 hs4 (tk_suf hp2)
      refine jj_if_ne h 74 d_M_kind_69 (by decide) ⟨by decide, by decide⟩ (fun _ => ?_) (fun q69 => absurd q69 (by omega))
      refine jj_aload_n h d_M_kind_74 rfl ⟨_, rfl⟩ ?_
      refine jj_callV h (cM_spaceL hs4) cv_M_137 (ro_of he (by decide) (by decide)) rfl rfl (by decide) rfl rfl rfl (Nat.le_of_ble_eq_true rfl) d_M_kind_75 (fun v m75 hv => ?_)
      obtain ⟨rfl, q5, hs5, -, -⟩ := hv
      have g5 := g4.go q5 hs5 (skp_suf _ 0)
      refine jj_aload_n h d_M_kind_78 rfl ⟨_, rfl⟩ ?_
      refine jj_callV h (cM_atomL hs5) cv_M_140 (ro_of he (by decide) (by decide)) rfl rfl (by decide) rfl rfl rfl (Nat.le_of_ble_eq_true rfl) d_M_kind_79 (fun v m79 hv => ?_)
      obtain ⟨rfl, q6, hs6, x1, x2, x3, x4, x5⟩ := hv
      have g6 := g5.go q6 hs6 (dw_suf _ _)
      have hb6 := g6.1.by g6.2.1 be
      have t6 := g6.2.1
      have tx : m79 187 = m32 187 := (q6.txt.trans (q5.txt.trans (q4.txt.trans (q3.txt.trans (q2.txt.trans q1.txt)))))
      refine jj_if_ne h 87 d_M_kind_82 (by decide) ⟨by split <;> omega, by split <;> omega⟩ (fun q82 => ?_) (fun q82 => ?_)
      · have e2 : ¬ (skp 0 l2).takeWhile at_ = [] := fun z => q82 (by rw [if_pos z])
        have kk : knd V = if wd_ w_message ((skp 0 V).takeWhile at_) ∧ wd_ w_rfc822 ((skp 0 l2).takeWhile at_) then (2, []) else if wd_ w_multipart ((skp 0 V).takeWhile at_) then mlt (skp 0 ((skp 0 l2).dropWhile at_)) else (0, []) := by
          unfold knd; rw [p1]; show kn2 ((tk_ 47 _).bind _) = _; rw [hp2]; show kn2 ((atm _).map _) = _; rw [show atm (skp 0 l2) = some ((skp 0 l2).takeWhile at_, (skp 0 l2).dropWhile at_) from if_neg e2]; rfl
        refine jj_aload_n h d_M_kind_87 rfl ⟨_, rfl⟩ ?_
        refine jj_iload_n h d_M_kind_88 rfl ?_
        refine jj_iload h d_M_kind_89 rfl ?_
        refine jj_ldc2 h (482888516137957) d_M_kind_91 wk_M_160 ?_
        refine jj_lconst0 h d_M_kind_94 ?_
        refine jj_lconst0 h d_M_kind_95 ?_
        refine jj_callV h (cM_isWord wl_message.1 wl_message.2 w1 w2 (by omega) (hb6.sub w1 (by omega))) cv_M_119 (ro_of he (by decide) (by decide)) rfl rfl (by decide) rfl rfl rfl (Nat.le_of_ble_eq_true rfl) d_M_kind_96 (fun v m96 hv => ?_)
        obtain ⟨rfl, rfl⟩ := hv
        rw [tx, ← q1.txt, w5]
        refine jj_if_eq h 124 d_M_kind_99 (by decide) ⟨by split <;> omega, by split <;> omega⟩ (fun q99 => ?_) (fun q99 => ?_)
        · have e3 : ¬ wd_ w_message ((skp 0 V).takeWhile at_) = true := fun z => by rw [if_pos z] at q99; omega
          have k2 : ¬ (wd_ w_message ((skp 0 V).takeWhile at_) = true ∧ wd_ w_rfc822 ((skp 0 l2).takeWhile at_) = true) := fun z => e3 z.1
          rw [if_neg k2] at kk
          refine jj_aload_n h d_M_kind_124 rfl ⟨_, rfl⟩ ?_
          refine jj_iload_n h d_M_kind_125 rfl ?_
          refine jj_iload h d_M_kind_126 rfl ?_
          refine jj_ldc2 h (7920621897859496308) d_M_kind_128 wk_M_164 ?_
          refine jj_lconst0 h d_M_kind_131 ?_
          refine jj_lconst0 h d_M_kind_132 ?_
          refine jj_callV h (cM_isWord wl_multipart.1 wl_multipart.2 w1 w2 (by omega) (hb6.sub w1 (by omega))) cv_M_119 (ro_of he (by decide) (by decide)) rfl rfl (by decide) rfl rfl rfl (Nat.le_of_ble_eq_true rfl) d_M_kind_133 (fun v m133 hv => ?_)
          obtain ⟨rfl, rfl⟩ := hv
          rw [tx, ← q1.txt, w5]
          refine jj_if_ne h 141 d_M_kind_136 (by decide) ⟨by split <;> omega, by split <;> omega⟩ (fun q136 => ?_) (fun q136 => ?_)
          · have e5 : wd_ w_multipart ((skp 0 V).takeWhile at_) = true := Decidable.byContradiction fun z => q136 (by rw [if_neg z])
            rw [if_pos e5] at kk
            exact mult m79 _ g6 kk _ _
          · have e5 : ¬ wd_ w_multipart ((skp 0 V).takeWhile at_) = true := fun z => by rw [if_pos z] at q136; omega
            rw [if_neg e5] at kk
            refine jj_iconst h d_M_kind_139 ?_
            refine jj_iret h he d_M_kind_140 ?_
            exact fail m79 _ g6 (by rw [kk]; decide) 0 (by rw [kk])
        · have e3 : wd_ w_message ((skp 0 V).takeWhile at_) = true := Decidable.byContradiction fun z => q99 (by rw [if_neg z])
          refine jj_aload_n h d_M_kind_102 rfl ⟨_, rfl⟩ ?_
          refine jj_aload_n h d_M_kind_103 rfl ⟨_, rfl⟩ ?_
          refine jj_g_M_wordAt h  fl_M_106 d_M_kind_104 ?_
          refine jj_aload_n h d_M_kind_107 rfl ⟨_, rfl⟩ ?_
          refine jj_g_M_wordSize h  fl_M_112 d_M_kind_108 ?_
          refine jj_ldc2 h (3944599132466) d_M_kind_111 wk_M_162 ?_
          refine jj_lconst0 h d_M_kind_114 ?_
          refine jj_lconst0 h d_M_kind_115 ?_
          refine jj_callV h (cM_isWord wl_rfc822.1 wl_rfc822.2 x1 x2 (by omega) (hb6.sub x1 (by omega))) cv_M_119 (ro_of he (by decide) (by decide)) rfl rfl (by decide) rfl rfl rfl (Nat.le_of_ble_eq_true rfl) d_M_kind_116 (fun v m116 hv => ?_)
          obtain ⟨rfl, rfl⟩ := hv
          rw [q6.txt, x5]
          refine jj_if_eq h 124 d_M_kind_119 (by decide) ⟨by split <;> omega, by split <;> omega⟩ (fun q119 => ?_) (fun q119 => ?_)
          · have e4 : ¬ wd_ w_rfc822 ((skp 0 l2).takeWhile at_) = true := fun z => by rw [if_pos z] at q119; omega
            have k2 : ¬ (wd_ w_message ((skp 0 V).takeWhile at_) = true ∧ wd_ w_rfc822 ((skp 0 l2).takeWhile at_) = true) := fun z => e4 z.2
            rw [if_neg k2] at kk
            refine jj_aload_n h d_M_kind_124 rfl ⟨_, rfl⟩ ?_
            refine jj_iload_n h d_M_kind_125 rfl ?_
            refine jj_iload h d_M_kind_126 rfl ?_
            refine jj_ldc2 h (7920621897859496308) d_M_kind_128 wk_M_164 ?_
            refine jj_lconst0 h d_M_kind_131 ?_
            refine jj_lconst0 h d_M_kind_132 ?_
            refine jj_callV h (cM_isWord wl_multipart.1 wl_multipart.2 w1 w2 (by omega) (hb6.sub w1 (by omega))) cv_M_119 (ro_of he (by decide) (by decide)) rfl rfl (by decide) rfl rfl rfl (Nat.le_of_ble_eq_true rfl) d_M_kind_133 (fun v m133 hv => ?_)
            obtain ⟨rfl, rfl⟩ := hv
            rw [tx, ← q1.txt, w5]
            refine jj_if_ne h 141 d_M_kind_136 (by decide) ⟨by split <;> omega, by split <;> omega⟩ (fun q136 => ?_) (fun q136 => ?_)
            · have e5 : wd_ w_multipart ((skp 0 V).takeWhile at_) = true := Decidable.byContradiction fun z => q136 (by rw [if_neg z])
              rw [if_pos e5] at kk
              exact mult m79 _ g6 kk _ _
            · have e5 : ¬ wd_ w_multipart ((skp 0 V).takeWhile at_) = true := fun z => by rw [if_pos z] at q136; omega
              rw [if_neg e5] at kk
              refine jj_iconst h d_M_kind_139 ?_
              refine jj_iret h he d_M_kind_140 ?_
              exact fail m79 _ g6 (by rw [kk]; decide) 0 (by rw [kk])
          · have e4 : wd_ w_rfc822 ((skp 0 l2).takeWhile at_) = true := Decidable.byContradiction fun z => q119 (by rw [if_neg z])
            rw [if_pos (And.intro e3 e4)] at kk
            refine jj_iconst h d_M_kind_122 ?_
            refine jj_iret h he d_M_kind_123 ?_
            exact fail m79 _ g6 (by rw [kk]; decide) 2 (by rw [kk])
      · have e2 : (skp 0 l2).takeWhile at_ = [] := Decidable.byContradiction fun z => by rw [if_neg z] at q82; omega
        have k1 : knd V = (0, []) := by unfold knd; rw [p1]; show kn2 ((tk_ 47 _).bind _) = _; rw [hp2]; show kn2 ((atm _).map _) = _; rw [show atm (skp 0 l2) = none from if_pos e2]; rfl
        refine jj_iconst h d_M_kind_85 ?_
        refine jj_iret h he d_M_kind_86 ?_
        exact fail m79 _ g6 (by rw [k1]; decide) 0 (by rw [k1])
    · have e1 : (skp 0 V).takeWhile at_ = [] := Decidable.byContradiction fun z => by rw [if_neg z] at q43; omega
      have k1 : knd V = (0, []) := by unfold knd; rw [show atm (skp 0 V) = none from if_pos e1]; rfl
      refine jj_iconst h d_M_kind_46 ?_
      refine jj_iret h he d_M_kind_47 ?_
      exact fail m40 _ g2 (by rw [k1]; decide) 0 (by rw [k1])
  refine jj_aload_n h d_M_kind_0 rfl ⟨_, rfl⟩ ?_
  refine jj_iload_n h d_M_kind_1 rfl ?_
  refine jj_ldc2 h (7196677052775077620) d_M_kind_2 wk_M_123 ?_
  refine jj_ldc2 h (1996901) d_M_kind_5 wk_M_158 ?_
  refine jj_lconst0 h d_M_kind_8 ?_
  refine jj_callV h (cM_firstField wl_ctype ht hf) cv_M_129 (ro_of he (by decide) (by decide)) rfl rfl (by decide) rfl rfl rfl (Nat.le_of_ble_eq_true rfl) d_M_kind_9 (fun v m9 hv => ?_)
  obtain ⟨rfl, r, rfl, hr⟩ := hv
  refine jj_istore_n h d_M_kind_12 (Nat.le_of_ble_eq_true rfl) rfl ?_
  refine jj_iload_n h d_M_kind_13 rfl ?_
  refine jj_if_lt h 27 d_M_kind_14 (by decide) ⟨by omega, by have := hf.2.2.2.1; omega⟩ (fun q14 => ?_) (fun q14 => ?_)
  · refine jj_iconst h d_M_kind_27 ?_
    refine jj_iret h he d_M_kind_28 ?_
    rcases hr with ⟨-, hr⟩ | hr
    · have e1 := fld_u ho (show fld_ mem e nf w_ctype none from hr)
      subst e1
      exact fs_.rf.K ht.2.2 (by omega) (show (0 : Int) ≠ 1 by decide) rfl
    · omega
  · refine jj_aload_n h d_M_kind_17 rfl ⟨_, rfl⟩ ?_
    refine jj_iload_n h d_M_kind_18 rfl ?_
    refine jj_iconst h d_M_kind_19 ?_
    refine jj_callV h (cM_of (by omega) (by omega)) cv_M_59 (ro_of he (by decide) (by decide)) rfl rfl (by decide) rfl rfl rfl (Nat.le_of_ble_eq_true rfl) d_M_kind_20 (fun v m20 hv => ?_)
    obtain ⟨rfl, rfl⟩ := hv
    rw [hd]
    refine jj_iconst h d_M_kind_23 ?_
    refine jj_icmp_ne h 29 d_M_kind_24 (by decide) hd2 ⟨by decide, by decide⟩ (fun q24 => ?_) (fun q24 => ?_)
    · rcases hr with hr | ⟨h0, h1, h2, h3⟩
      · omega
      · exact tail r h0 h1 (fld_u ho (show fld_ mem e nf w_ctype (some (fV_ mem e r)) from ⟨r, h0, h1, h2, h3, rfl⟩)) q24
    · refine jj_iconst h d_M_kind_27 ?_
      refine jj_iret h he d_M_kind_28 ?_
      rcases hr with hr | ⟨h0, h1, h2, h3⟩
      · omega
      · have e1 := fld_u ho (show fld_ mem e nf w_ctype (some (fV_ mem e r)) from ⟨r, h0, h1, h2, h3, rfl⟩)
        subst e1
        have e2 : kndO_ (some (fV_ mem e r)) dep = (0, []) := if_pos q24
        rw [e2]
        exact fs_.rf.K ht.2.2 (by omega) (by decide) rfl
