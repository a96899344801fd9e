/-! The reference: takeEntity. -/
/-- what taking entity e may change -/
def fE_ (mem : mt_M) (e : Int) (m : mt_M) : Prop := mem 182 9 ≤ m 182 9 ∧ ∀ (r : Nat) (z : Int), (r ≠ 187 ∨ z < mem 182 9) → (r ≠ 186 ∨ z < 32 * e) → (r ≠ 185 ∨ z < 16 * e) → r ≠ 188 → r ≠ 189 → (r ≠ 182 ∨ (z ≠ 13 ∧ z ≠ 14 ∧ z ≠ 15 ∧ z ≠ 16 ∧ z ≠ 9 ∧ z ≠ 10)) → m r z = mem r z
theorem fE_.rf {mem : mt_M} {e : Int} : fE_ mem e mem := ⟨Int.le_refl _, fun _ _ _ _ _ _ _ _ => rfl⟩
theorem fE_.fF {a b c : mt_M} {e : Int} (h1 : fE_ a e b) (h2 : fF_ b e c) : fE_ a e c := ⟨Int.le_trans h1.1 h2.1, fun r z p q s t u v => by
  have := h1.1
  rw [h2.2 r z (by omega) (by omega) (by omega) (by omega)]; exact h1.2 r z p q s t u v⟩
theorem fE_.fs {a b c : mt_M} {e : Int} (h1 : fE_ a e b) (h2 : fs_ b c) : fE_ a e c := ⟨Int.le_trans h1.1 h2.1, fun r z p q s t u v => by
  have := h1.1
  rw [h2.2 r z (by omega) (by omega)]; exact h1.2 r z p q s t u v⟩
theorem fE_.fK {a b c : mt_M} {e : Int} (h1 : fE_ a e b) (h2 : fK_ b e c) : fE_ a e c := ⟨Int.le_trans h1.1 h2.1, fun r z p q s t u v => by
  have := h1.1
  rw [h2.2 r z (by omega) (by omega) (by omega)]; exact h1.2 r z p q s t u v⟩
theorem fE_.ap {a b c : mt_M} {e : Int} {l : List Int} (h1 : fE_ a e b) (h2 : ap_ b l c) : fE_ a e c := ⟨by have := h1.1; have := h2.1; omega, fun r z p q s t u v => by
  have := h1.1
  rw [h2.2.2 r z (by omega) (by omega)]; exact h1.2 r z p q s t u v⟩
theorem fE_.dat {a b : mt_M} {e w v : Int} (h1 : fE_ a e b) (hw : 0 ≤ w) : fE_ a e (st_ b 185 (16 * e + w) v) := ⟨by rw [st_ne (by omega)]; exact h1.1, fun r z p q s t u v => by
  rw [st_ne (by omega)]; exact h1.2 r z p q s t u v⟩
theorem fE_.lay {a b c : mt_M} {e : Int} (h1 : fE_ a e b) (h2 : ∀ (r : Nat) (z : Int), r ≠ 188 → (r ≠ 182 ∨ z ≠ 10) → c r z = b r z) : fE_ a e c := ⟨by rw [h2 _ _ (by decide) (by decide)]; exact h1.1, fun r z p q s t u v => by
  rw [h2 r z t (by omega)]; exact h1.2 r z p q s t u v⟩
theorem fE_.fnd {a b c : mt_M} {e : Int} (h1 : fE_ a e b) (h2 : ∀ r : Nat, r ≠ 189 → c r = b r) : fE_ a e c := ⟨by rw [h2 _ (by decide)]; exact h1.1, fun r z p q s t u v => by
  rw [h2 r u]; exact h1.2 r z p q s t u v⟩
theorem fE_.ups {a b : mt_M} {e : Int} (h : fE_ a e b) : ups a b := ⟨h.1, fun z hz => h.2 _ _ (Or.inr hz) (Or.inl (by decide)) (Or.inl (by decide)) (by decide) (by decide) (Or.inl (by decide))⟩
theorem fE_.src {a b : mt_M} {e : Int} (h : fE_ a e b) : b 184 = a 184 := by funext z; exact h.2 _ _ (Or.inl (by decide)) (Or.inl (by decide)) (Or.inl (by decide)) (by decide) (by decide) (Or.inl (by decide))
/-- what taking an entity leaves alone -/
def fT_ (mem m : mt_M) : Prop := ∀ (r : Nat) (z : Int), r ≠ 187 → r ≠ 186 → r ≠ 185 → r ≠ 188 → r ≠ 189 → (r ≠ 182 ∨ (z ≠ 13 ∧ z ≠ 14 ∧ z ≠ 15 ∧ z ≠ 16 ∧ z ≠ 9 ∧ z ≠ 10 ∧ z ≠ 5)) → m r z = mem r z
def tP_ (mem : mt_M) (L : List mt_E) (S : List mt_R) (x : mt_R) (v : Option Value) (m' : mt_M) : Prop := v = none ∧ RepE m' (tk1 (mem 184) L x).1 ∧ m' 182 5 = (tk1 (mem 184) L x).1.length ∧ rg_ m' (S ++ (tk1 (mem 184) L x).2.reverse) ∧ tb_ m' ∧ (L.length ≠ 16 → m' 182 9 ≤ mem 182 9 + 2 * ((eF (mem 184) x).2 - x.1) + 20 + (if (eK (mem 184) x).1 = 0 then x.2.1 - (eF (mem 184) x).2 else 0)) ∧ (L.length = 16 → m' 182 9 = mem 182 9) ∧ fT_ mem m'
theorem tb_.dat {m : mt_M} {z v : Int} (h : tb_ m) : tb_ (st_ m 185 z v) := ⟨by rw [st_ne (by omega)]; exact h.1, by rw [st_ne (by omega)]; exact h.2.1, by rw [st_row (by decide), st_ne (by omega)]; exact h.2.2⟩
theorem ups.dat {m : mt_M} {z v : Int} : ups m (st_ m 185 z v) := ⟨by rw [st_ne (by omega)]; exact Int.le_refl _, fun _ _ => by rw [st_row (by decide)]⟩
theorem repF.dat {m : mt_M} {e w v : Int} {L : List (List Int × List Int)} (h : repF m e L) (hw : w ≠ 3) : repF (st_ m 185 (16 * e + w) v) e L := h.mov ups.dat (fun z _ _ => by rw [st_row (by decide)]) (by rw [st_ne (by omega)])
theorem cM_takeEntity {G : mt_G} {l : Launch} {mem : mt_M} {L : List mt_E} {S : List mt_R} {x : mt_R} (hL : RepE mem L) (hLn : mem 182 5 = L.length) (hL16 : L.length ≤ 16) (hS : rg_ mem (S ++ [x])) (hx0 : 0 ≤ x.1) (hx1 : x.1 ≤ x.2.1) (hx2 : x.2.1 ≤ 320) (hdep : 1 ≤ x.2.2.1 ∧ x.2.2.1 ≤ 4) (hpar : -1 ≤ x.2.2.2) (hparl : x.2.2.2 < L.length) (hb : by_ (mem 184) x.1 x.2.1) (ht : tb_ mem) (hro : mem 182 9 + 2 * (x.2.1 - x.1) + 20 ≤ 1400) (hpl : S.length ≤ 240) : CT G l y_M_takeEntity c_M_takeEntity 8 none 7 [vr G 182] mem (tP_ mem L S x) := by
  refine CT.intro (by decide) rfl (Nat.le_of_ble_eq_true rfl) (fun X h he => ?_)
  obtain ⟨hS1, hS2⟩ := hS
  rw [List.length_append] at hS1
  simp only [List.length_cons, List.length_nil] at hS1
  obtain ⟨r1, r2, r3, r4⟩ := hS2 S.length x (by simp)
  have hSr : ∀ (i : Nat) (y : mt_R), S[i]? = some y → mem 188 (4 * (i : Int)) = y.1 ∧ mem 188 (4 * (i : Int) + 1) = y.2.1 ∧ mem 188 (4 * (i : Int) + 2) = y.2.2.1 ∧ mem 188 (4 * (i : Int) + 3) = y.2.2.2 := fun i y hy => hS2 i y (by rw [List.getElem?_append_left (List.getElem?_eq_some_iff.mp hy).1]; exact hy)
  by_cases h16 : L.length = 16
  · have e1 : tk1 (mem 184) L x = (L, []) := if_pos h16
    refine jj_aload_n h d_M_takeEntity_0 rfl ⟨_, rfl⟩ ?_
    refine jj_dup h d_M_takeEntity_1 rfl ?_
    refine jj_g_M_pile h  fl_M_175 d_M_takeEntity_2 ?_
    try simp only [st_at, Nat.reduceEqDiff, Int.reduceEq, and_self, true_and, and_true, false_and, and_false, reduceIte, hS1, hLn]
    refine jj_iconst h d_M_takeEntity_5 ?_
    refine jj_isub h d_M_takeEntity_6 ?_
    refine jj_p_M_pile h  fl_M_175 d_M_takeEntity_7 ?_
    refine jj_aload_n h d_M_takeEntity_10 rfl ⟨_, rfl⟩ ?_
    refine jj_g_M_entities h  fl_M_196 d_M_takeEntity_11 ?_
    try simp only [st_at, Nat.reduceEqDiff, Int.reduceEq, and_self, true_and, and_true, false_and, and_false, reduceIte, hS1, hLn]
    refine jj_bipush h d_M_takeEntity_14 (by decide) ?_
    refine jj_icmp_ne h 20 d_M_takeEntity_16 (by decide) ⟨by omega, by omega⟩ ⟨by omega, by omega⟩ (fun q16 => absurd (by omega) q16) (fun _ => ?_)
    refine jj_vret h he d_M_takeEntity_19 ?_
    unfold tP_
    rw [e1]
    generalize hm9 : st_ mem 182 10 _ = m9
    have g1 : ∀ (r : Nat) (z : Int), (r ≠ 182 ∨ z ≠ 10) → m9 r z = mem r z := fun r z q => by rw [← hm9, st_ne q]
    have g2 : m9 182 10 = S.length := by rw [← hm9, st_same]; omega
    have gr : ∀ r : Nat, r ≠ 182 → m9 r = mem r := fun r hr => by funext z; exact g1 r z (Or.inl hr)
    have hu : ups mem m9 := ⟨by rw [g1 _ _ (by decide)]; exact Int.le_refl _, fun z _ => by rw [gr _ (by decide)]⟩
    refine ⟨rfl, hL.mov hu (fun z _ _ => by rw [gr _ (by decide)]) (fun z _ _ => by rw [gr _ (by decide)]), by rw [g1 _ _ (by decide)]; exact hLn, ⟨by rw [g2]; simp, fun i y hy => by rw [gr _ (by decide)]; exact hSr i y (by simpa using hy)⟩, ⟨by rw [g1 _ _ (by decide)]; exact ht.1, by rw [g1 _ _ (by decide)]; exact ht.2.1, by rw [g1 _ _ (by decide), gr _ (by decide)]; exact ht.2.2⟩, fun z => absurd h16 z, fun _ => g1 _ _ (by decide), fun r z _ _ _ _ _ q => g1 r z (by omega)⟩
  · have htk : tk1 (mem 184) L x = (bmpI L x.2.2.2 ++ [mkE (mem 184) x], chE (mem 184) x L.length) := if_neg h16
    unfold tP_ at he
    rw [htk] at he
    obtain ⟨b, s, dep, par⟩ := x
    dsimp only at hx0 hx1 hx2 hdep hpar hparl hb hro r1 r2 r3 r4 he
    generalize hx9 : ((b, s, dep, par) : mt_R) = x at *
    have xb : x.1 = b := by rw [← hx9]
    have xs : x.2.1 = s := by rw [← hx9]
    have xd : x.2.2.1 = dep := by rw [← hx9]
    have xp : x.2.2.2 = par := by rw [← hx9]
    generalize hf : mem 184 = f at *
    generalize hee : (L.length : Int) = e at *
    have he16 : e < 16 := by omega
    have he0 : 0 ≤ e := by omega
    have hFi := flds_inv (f := f) (b := b) (s := s) hx1
    have hFd : flds f b s = eF f x := by unfold eF; rw [xb, xs]
    rw [hFd] at hFi
    generalize hbody : (eF f x).2 = body at *
    generalize hfl : (eF f x).1 = fl at *
    have hen : eN f x = encO_ (fnd w_cte fl) := by unfold eN; rw [hfl]
    have hK : eK f x = kndO_ (fnd w_ctype fl) dep := by unfold eK; rw [hfl, xd]
    have segB : ∀ mA : mt_M, mA 182 10 = S.length → mA 182 5 = e + 1 → (∀ z : Int, mA 185 z = if z = 16 * e + 9 then s else if z = 16 * e + 7 then b else if 0 ≤ par ∧ z = 16 * par + 6 then mem 185 z + 1 else if z = 16 * e + 2 then par else if z = 16 * e + 1 then dep else if 16 * e ≤ z ∧ z < 16 * e + 16 then 0 else mem 185 z) → (∀ (r : Nat) (z : Int), r ≠ 185 → (r ≠ 182 ∨ (z ≠ 10 ∧ z ≠ 5)) → mA r z = mem r z) → ∀ x5 x6 x7, JJ G X 0 0 mA 166 [some (vr G 182), some (vi e), some (vi b), some (vi s), some (vi par), x5, x6, x7] [] := by
      intro mA A1 A2 A3 A4 x5 x6 x7
      have AT : mA 182 9 = mem 182 9 := A4 _ _ (by decide) (by decide)
      have AX : mA 187 = mem 187 := by funext z; exact A4 _ _ (by decide) (Or.inl (by decide))
      have AS : mA 184 = f := by funext z; rw [A4 _ _ (by decide) (Or.inl (by decide)), hf]
      have AF : mA 186 = mem 186 := by funext z; exact A4 _ _ (by decide) (Or.inl (by decide))
      have AR : mA 188 = mem 188 := by funext z; exact A4 _ _ (by decide) (Or.inl (by decide))
      have Atb : tb_ mA := ⟨by rw [AT]; exact ht.1, by rw [AT]; exact ht.2.1, by rw [AT, AX]; exact ht.2.2⟩
      have A30 : mA 185 (16 * e + 3) = 0 := by rw [A3, if_neg (by omega), if_neg (by omega), if_neg (by omega), if_neg (by omega), if_neg (by omega), if_pos (by omega)]
      have Arg : rg_ mA S := ⟨A1, fun i y hy => by rw [AR]; exact hSr i y hy⟩
      -- the end: entity e stands, and its parts lie on the pile
      have done : ∀ mF : mt_M, fE_ mA e mF → rE mF e (mkE f x) → rg_ mF (S ++ (chE f x e).reverse) → tb_ mF → mF 182 9 ≤ mem 182 9 + 2 * (body - b) + 20 + (if (eK f x).1 = 0 then s - body else 0) → (((none : Option Value) = none) ∧ RepE mF (bmpI L par ++ [mkE f x]) ∧ mF 182 5 = ((bmpI L par ++ [mkE f x]).length : Int) ∧ rg_ mF (S ++ (chE f x e).reverse) ∧ tb_ mF ∧ (L.length ≠ 16 → mF 182 9 ≤ mem 182 9 + 2 * (body - b) + 20 + (if (eK f x).1 = 0 then s - body else 0)) ∧ (L.length = 16 → mF 182 9 = mem 182 9) ∧ fT_ mem mF) := by
        intro mF F1 F2 F3 F4 F5
        have hu : ups mem mF := ⟨by have := F1.1; omega, fun z hz => by rw [F1.ups.2 z (by omega), AX]⟩
        refine ⟨rfl, RepE.snoc (hL.bump hpar (by omega) hu (fun z z0 z1 => ?_) (fun z z0 z1 => ?_)) (by rw [bmpI_len, hee]; exact F2), ?_, F3, F4, fun _ => F5, fun z => absurd z h16, fun r z a1 a2 a3 a4 a5 a6 => ?_⟩
        · rw [F1.2 _ _ (Or.inl (by decide)) (Or.inr (by omega)) (Or.inl (by decide)) (by decide) (by decide) (Or.inl (by decide)), AF]
        · rw [F1.2 _ _ (Or.inl (by decide)) (Or.inl (by decide)) (Or.inr (by omega)) (by decide) (by decide) (Or.inl (by decide)), A3]
          by_cases hp9 : 0 ≤ par ∧ z = 16 * par + 6
          · rw [if_neg (by omega), if_neg (by omega), if_pos hp9, if_pos hp9]
          · rw [if_neg (by omega), if_neg (by omega), if_neg hp9, if_neg (by omega), if_neg (by omega), if_neg (by omega), if_neg hp9]
        · rw [F1.2 _ _ (Or.inl (by decide)) (Or.inl (by decide)) (Or.inl (by decide)) (by decide) (by decide) (Or.inr (by decide)), A2, List.length_append, bmpI_len]; simp only [List.length_cons, List.length_nil]; omega
        · rw [F1.2 r z (Or.inl a1) (Or.inl a2) (Or.inl a3) a4 a5 (by omega)]; exact A4 r z a3 (by omega)
      refine jj_aload_n h d_M_takeEntity_166 rfl ⟨_, rfl⟩ ?_
      refine jj_iload_n h d_M_takeEntity_167 rfl ?_
      refine jj_bipush h d_M_takeEntity_168 (by decide) ?_
      refine jj_aload_n h d_M_takeEntity_170 rfl ⟨_, rfl⟩ ?_
      refine jj_iload_n h d_M_takeEntity_171 rfl ?_
      refine jj_iload_n h d_M_takeEntity_172 rfl ?_
      refine jj_iload_n h d_M_takeEntity_173 rfl ?_
      refine jj_callV h (cM_fields he0 he16 hx0 hx1 hx2 (by rw [AS]; exact hb) A30 Atb (by omega)) cv_M_199 (ro_of he (by decide) (by decide)) rfl rfl (by decide) rfl rfl rfl (Nat.le_of_ble_eq_true rfl) d_M_takeEntity_174 (fun v m174 hv => ?_)
      obtain ⟨rfl, q1, q2, q3, q4, q5, q6⟩ := hv
      rw [AS, hFd] at q1 q4 q5 q6
      rw [AS, hFd, hbody]
      rw [hfl] at q1
      rw [hbody] at q4 q5 q6
      have E1 := (fE_.rf (mem := mA) (e := e)).fF q2
      refine jj_callV h (cM_set (by omega) (by omega)) cv_M_70 (ro_of he (by decide) (by decide)) rfl rfl (by decide) rfl rfl rfl (Nat.le_of_ble_eq_true rfl) d_M_takeEntity_177 (fun v m177 hv => ?_)
      obtain ⟨rfl, rfl⟩ := hv
      have q7 : repF (st_ m174 185 (16 * e + 8) body) e fl := q1.dat (by decide)
      have q8 : tb_ (st_ m174 185 (16 * e + 8) body) := q3.dat
      have E2 := E1.dat (w := 8) (v := body) (by decide)
      have T2 : (st_ m174 185 (16 * e + 8) body) 182 9 = m174 182 9 := by rw [st_ne (by omega)]
      refine jj_aload_n h d_M_takeEntity_180 rfl ⟨_, rfl⟩ ?_
      refine jj_iload_n h d_M_takeEntity_181 rfl ?_
      refine jj_iconst h d_M_takeEntity_182 ?_
      refine jj_aload_n h d_M_takeEntity_183 rfl ⟨_, rfl⟩ ?_
      refine jj_iload_n h d_M_takeEntity_184 rfl ?_
      refine jj_callV h (cM_encoding q8 (q7.fw he0 he16) (fld_of q7)) cv_M_202 (ro_of he (by decide) (by decide)) rfl rfl (by decide) rfl rfl rfl (Nat.le_of_ble_eq_true rfl) d_M_takeEntity_185 (fun v m185 hv => ?_)
      obtain ⟨rfl, q9, q10⟩ := hv
      rw [← hen]
      have E3 := E2.fs q9
      have q11 : repF m185 e fl := q7.mov ⟨q9.1, fun z hz => q9.2 _ _ (Or.inr hz) (Or.inl (by decide))⟩ (fun z _ _ => q9.2 _ _ (Or.inl (by decide)) (Or.inl (by decide))) (q9.2 _ _ (Or.inl (by decide)) (Or.inl (by decide)))
      have q12 : tb_ m185 := ⟨by rw [q10]; exact q8.1, by rw [q10]; exact q8.2.1, by rw [q10]; intro i i0 i1; rw [q9.2 _ _ (Or.inr i1) (Or.inl (by decide))]; exact q8.2.2 i i0 i1⟩
      have D3 : m185 185 = (st_ m174 185 (16 * e + 8) body) 185 := q9.row (by decide) (by decide)
      refine jj_callV h (cM_set (by omega) (by omega)) cv_M_70 (ro_of he (by decide) (by decide)) rfl rfl (by decide) rfl rfl rfl (Nat.le_of_ble_eq_true rfl) d_M_takeEntity_188 (fun v m188 hv => ?_)
      obtain ⟨rfl, rfl⟩ := hv
      have q13 : repF (st_ m185 185 (16 * e + 4) (eN f x)) e fl := q11.dat (by decide)
      have q14 : tb_ (st_ m185 185 (16 * e + 4) (eN f x)) := q12.dat
      have E4 := E3.dat (w := 4) (v := eN f x) (by decide)
      have T4 : (st_ m185 185 (16 * e + 4) (eN f x)) 182 9 = m174 182 9 := by rw [st_ne (by omega), q10, T2]
      have D4 : (st_ m185 185 (16 * e + 4) (eN f x)) 185 (16 * e + 1) = dep := by rw [st_ne (by omega), D3, st_ne (by omega), q2.2 _ _ (Or.inl (by decide)) (Or.inl (by decide)) (Or.inl (by decide)) (Or.inr (by omega)), A3, if_neg (by omega), if_neg (by omega), if_neg (by omega), if_neg (by omega), if_pos rfl]
      refine jj_aload_n h d_M_takeEntity_191 rfl ⟨_, rfl⟩ ?_
      refine jj_iload_n h d_M_takeEntity_192 rfl ?_
      refine jj_callV h (cM_kind (B := body - b + 20) q14 (q13.fw he0 he16) (fld_of q13) D4 ⟨by omega, by omega⟩ (fun f9 g0 g1 => by have := q13.vs hFi.2.2.2 f9 g0 g1; omega) (by omega) (by omega)) cv_M_205 (ro_of he (by decide) (by decide)) rfl rfl (by decide) rfl rfl rfl (Nat.le_of_ble_eq_true rfl) d_M_takeEntity_193 (fun v m193 hv => ?_)
      rw [← hK] at hv
      obtain ⟨rfl, k1, k2, k3, k4, k5⟩ := hv
      sorry
    sorry
