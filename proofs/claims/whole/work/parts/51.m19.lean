/-! The reference: takeEntity. -/
/-- what taking entity e may change -/
def fE_ (mem : mt_M) (e : Int) (m : mt_M) : Prop := mem 182 9 ≤ m 182 9 ∧ ∀ (r : Nat) (z : Int), (r ≠ 187 ∨ z < mem 182 9) → (r ≠ 186 ∨ z < 32 * e) → (r ≠ 185 ∨ z < 16 * e) → r ≠ 188 → r ≠ 189 → (r ≠ 182 ∨ (z ≠ 13 ∧ z ≠ 14 ∧ z ≠ 15 ∧ z ≠ 16 ∧ z ≠ 9 ∧ z ≠ 10)) → m r z = mem r z
theorem fE_.rf {mem : mt_M} {e : Int} : fE_ mem e mem := ⟨Int.le_refl _, fun _ _ _ _ _ _ _ _ => rfl⟩
theorem fE_.fF {a b c : mt_M} {e : Int} (h1 : fE_ a e b) (h2 : fF_ b e c) : fE_ a e c := ⟨Int.le_trans h1.1 h2.1, fun r z p q s t u v => by
  have := h1.1
  rw [h2.2 r z (by omega) (by omega) (by omega) (by omega)]; exact h1.2 r z p q s t u v⟩
theorem fE_.fs {a b c : mt_M} {e : Int} (h1 : fE_ a e b) (h2 : fs_ b c) : fE_ a e c := ⟨Int.le_trans h1.1 h2.1, fun r z p q s t u v => by
  have := h1.1
  rw [h2.2 r z (by omega) (by omega)]; exact h1.2 r z p q s t u v⟩
theorem fE_.fK {a b c : mt_M} {e : Int} (h1 : fE_ a e b) (h2 : fK_ b e c) : fE_ a e c := ⟨Int.le_trans h1.1 h2.1, fun r z p q s t u v => by
  have := h1.1
  rw [h2.2 r z (by omega) (by omega) (by omega)]; exact h1.2 r z p q s t u v⟩
theorem fE_.ap {a b c : mt_M} {e : Int} {l : List Int} (h1 : fE_ a e b) (h2 : ap_ b l c) : fE_ a e c := ⟨by have := h1.1; have := h2.1; omega, fun r z p q s t u v => by
  have := h1.1
  rw [h2.2.2 r z (by omega) (by omega)]; exact h1.2 r z p q s t u v⟩
theorem fE_.dat {a b : mt_M} {e w v : Int} (h1 : fE_ a e b) (hw : 0 ≤ w) : fE_ a e (st_ b 185 (16 * e + w) v) := ⟨by rw [st_ne (by omega)]; exact h1.1, fun r z p q s t u v => by
  rw [st_ne (by omega)]; exact h1.2 r z p q s t u v⟩
theorem fE_.lay {a b c : mt_M} {e : Int} (h1 : fE_ a e b) (h2 : ∀ (r : Nat) (z : Int), r ≠ 188 → (r ≠ 182 ∨ z ≠ 10) → c r z = b r z) : fE_ a e c := ⟨by rw [h2 _ _ (by decide) (by decide)]; exact h1.1, fun r z p q s t u v => by
  rw [h2 r z t (by omega)]; exact h1.2 r z p q s t u v⟩
theorem fE_.fnd {a b c : mt_M} {e : Int} (h1 : fE_ a e b) (h2 : ∀ r : Nat, r ≠ 189 → c r = b r) : fE_ a e c := ⟨by rw [h2 _ (by decide)]; exact h1.1, fun r z p q s t u v => by
  rw [h2 r u]; exact h1.2 r z p q s t u v⟩
theorem fE_.ups {a b : mt_M} {e : Int} (h : fE_ a e b) : ups a b := ⟨h.1, fun z hz => h.2 _ _ (Or.inr hz) (Or.inl (by decide)) (Or.inl (by decide)) (by decide) (by decide) (Or.inl (by decide))⟩
theorem fE_.src {a b : mt_M} {e : Int} (h : fE_ a e b) : b 184 = a 184 := by funext z; exact h.2 _ _ (Or.inl (by decide)) (Or.inl (by decide)) (Or.inl (by decide)) (by decide) (by decide) (Or.inl (by decide))
/-- what taking an entity leaves alone -/
def fT_ (mem m : mt_M) : Prop := ∀ (r : Nat) (z : Int), r ≠ 187 → r ≠ 186 → r ≠ 185 → r ≠ 188 → r ≠ 189 → (r ≠ 182 ∨ (z ≠ 13 ∧ z ≠ 14 ∧ z ≠ 15 ∧ z ≠ 16 ∧ z ≠ 9 ∧ z ≠ 10 ∧ z ≠ 5)) → m r z = mem r z
def tP_ (mem : mt_M) (L : List mt_E) (S : List mt_R) (x : mt_R) (v : Option Value) (m' : mt_M) : Prop := v = none ∧ RepE m' (tk1 (mem 184) L x).1 ∧ m' 182 5 = (tk1 (mem 184) L x).1.length ∧ rg_ m' (S ++ (tk1 (mem 184) L x).2.reverse) ∧ tb_ m' ∧ (L.length ≠ 16 → m' 182 9 ≤ mem 182 9 + 2 * ((eF (mem 184) x).2 - x.1) + 20 + (if (eK (mem 184) x).1 = 0 then x.2.1 - (eF (mem 184) x).2 else 0)) ∧ (L.length = 16 → m' 182 9 = mem 182 9) ∧ fT_ mem m'
theorem cM_takeEntity {G : mt_G} {l : Launch} {mem : mt_M} {L : List mt_E} {S : List mt_R} {x : mt_R} (hL : RepE mem L) (hLn : mem 182 5 = L.length) (hL16 : L.length ≤ 16) (hS : rg_ mem (S ++ [x])) (hx0 : 0 ≤ x.1) (hx1 : x.1 ≤ x.2.1) (hx2 : x.2.1 ≤ 320) (hdep : 1 ≤ x.2.2.1 ∧ x.2.2.1 ≤ 4) (hpar : -1 ≤ x.2.2.2) (hparl : x.2.2.2 < L.length) (hb : by_ (mem 184) x.1 x.2.1) (ht : tb_ mem) (hro : mem 182 9 + 2 * (x.2.1 - x.1) + 20 ≤ 1400) (hpl : S.length ≤ 240) : CT G l y_M_takeEntity c_M_takeEntity 8 none 7 [vr G 182] mem (tP_ mem L S x) := by
  refine CT.intro (by decide) rfl (Nat.le_of_ble_eq_true rfl) (fun X h he => ?_)
  obtain ⟨hS1, hS2⟩ := hS
  rw [List.length_append] at hS1
  simp only [List.length_cons, List.length_nil] at hS1
  obtain ⟨r1, r2, r3, r4⟩ := hS2 S.length x (by simp)
  have hSr : ∀ (i : Nat) (y : mt_R), S[i]? = some y → mem 188 (4 * (i : Int)) = y.1 ∧ mem 188 (4 * (i : Int) + 1) = y.2.1 ∧ mem 188 (4 * (i : Int) + 2) = y.2.2.1 ∧ mem 188 (4 * (i : Int) + 3) = y.2.2.2 := fun i y hy => hS2 i y (by rw [List.getElem?_append_left (List.getElem?_eq_some_iff.mp hy).1]; exact hy)
  by_cases h16 : L.length = 16
  · have e1 : tk1 (mem 184) L x = (L, []) := if_pos h16
    refine jj_aload_n h d_M_takeEntity_0 rfl ⟨_, rfl⟩ ?_
    refine jj_dup h d_M_takeEntity_1 rfl ?_
    refine jj_g_M_pile h  fl_M_175 d_M_takeEntity_2 ?_
    try simp only [st_at, Nat.reduceEqDiff, Int.reduceEq, and_self, true_and, and_true, false_and, and_false, reduceIte, hS1, hLn]
    refine jj_iconst h d_M_takeEntity_5 ?_
    refine jj_isub h d_M_takeEntity_6 ?_
    refine jj_p_M_pile h  fl_M_175 d_M_takeEntity_7 ?_
    refine jj_aload_n h d_M_takeEntity_10 rfl ⟨_, rfl⟩ ?_
    refine jj_g_M_entities h  fl_M_196 d_M_takeEntity_11 ?_
    try simp only [st_at, Nat.reduceEqDiff, Int.reduceEq, and_self, true_and, and_true, false_and, and_false, reduceIte, hS1, hLn]
    refine jj_bipush h d_M_takeEntity_14 (by decide) ?_
    refine jj_icmp_ne h 20 d_M_takeEntity_16 (by decide) ⟨by omega, by omega⟩ ⟨by omega, by omega⟩ (fun q16 => absurd (by omega) q16) (fun _ => ?_)
    refine jj_vret h he d_M_takeEntity_19 ?_
    unfold tP_
    rw [e1]
    generalize hm9 : st_ mem 182 10 _ = m9
    have g1 : ∀ (r : Nat) (z : Int), (r ≠ 182 ∨ z ≠ 10) → m9 r z = mem r z := fun r z q => by rw [← hm9, st_ne q]
    have g2 : m9 182 10 = S.length := by rw [← hm9, st_same]; omega
    have gr : ∀ r : Nat, r ≠ 182 → m9 r = mem r := fun r hr => by funext z; exact g1 r z (Or.inl hr)
    have hu : ups mem m9 := ⟨by rw [g1 _ _ (by decide)]; exact Int.le_refl _, fun z _ => by rw [gr _ (by decide)]⟩
    refine ⟨rfl, hL.mov hu (fun z _ _ => by rw [gr _ (by decide)]) (fun z _ _ => by rw [gr _ (by decide)]), by rw [g1 _ _ (by decide)]; exact hLn, ⟨by rw [g2]; simp, fun i y hy => by rw [gr _ (by decide)]; exact hSr i y (by simpa using hy)⟩, ⟨by rw [g1 _ _ (by decide)]; exact ht.1, by rw [g1 _ _ (by decide)]; exact ht.2.1, by rw [g1 _ _ (by decide), gr _ (by decide)]; exact ht.2.2⟩, fun z => absurd h16 z, fun _ => g1 _ _ (by decide), fun r z _ _ _ _ _ q => g1 r z (by omega)⟩
  · have htk : tk1 (mem 184) L x = (bmpI L x.2.2.2 ++ [mkE (mem 184) x], chE (mem 184) x L.length) := if_neg h16
    unfold tP_ at he
    rw [htk] at he
    obtain ⟨b, s, dep, par⟩ := x
    dsimp only at hx0 hx1 hx2 hdep hpar hparl hb hro r1 r2 r3 r4 he
    generalize hx9 : ((b, s, dep, par) : mt_R) = x at *
    have xb : x.1 = b := by rw [← hx9]
    have xs : x.2.1 = s := by rw [← hx9]
    have xd : x.2.2.1 = dep := by rw [← hx9]
    have xp : x.2.2.2 = par := by rw [← hx9]
    generalize hf : mem 184 = f at *
    generalize hee : (L.length : Int) = e at *
    have he16 : e < 16 := by omega
    have he0 : 0 ≤ e := by omega
    have hFi := flds_inv (f := f) (b := b) (s := s) hx1
    have hFd : flds f b s = eF f x := by unfold eF; rw [xb, xs]
    rw [hFd] at hFi
    generalize hbody : (eF f x).2 = body at *
    generalize hfl : (eF f x).1 = fl at *
    sorry
