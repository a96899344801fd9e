/-! The reference: takeEntity. -/
/-- what taking entity e may change -/
def fE_ (mem : mt_M) (e : Int) (m : mt_M) : Prop := mem 182 9 ≤ m 182 9 ∧ ∀ (r : Nat) (z : Int), (r ≠ 187 ∨ z < mem 182 9) → (r ≠ 186 ∨ z < 32 * e) → (r ≠ 185 ∨ z < 16 * e) → r ≠ 188 → r ≠ 189 → (r ≠ 182 ∨ (z ≠ 13 ∧ z ≠ 14 ∧ z ≠ 15 ∧ z ≠ 16 ∧ z ≠ 9 ∧ z ≠ 10)) → m r z = mem r z
theorem fE_.rf {mem : mt_M} {e : Int} : fE_ mem e mem := ⟨Int.le_refl _, fun _ _ _ _ _ _ _ _ => rfl⟩
theorem fE_.fF {a b c : mt_M} {e : Int} (h1 : fE_ a e b) (h2 : fF_ b e c) : fE_ a e c := ⟨Int.le_trans h1.1 h2.1, fun r z p q s t u v => by
  have := h1.1
  rw [h2.2 r z (by omega) (by omega) (by omega) (by omega)]; exact h1.2 r z p q s t u v⟩
theorem fE_.fs {a b c : mt_M} {e : Int} (h1 : fE_ a e b) (h2 : fs_ b c) : fE_ a e c := ⟨Int.le_trans h1.1 h2.1, fun r z p q s t u v => by
  have := h1.1
  rw [h2.2 r z (by omega) (by omega)]; exact h1.2 r z p q s t u v⟩
theorem fE_.fK {a b c : mt_M} {e : Int} (h1 : fE_ a e b) (h2 : fK_ b e c) : fE_ a e c := ⟨Int.le_trans h1.1 h2.1, fun r z p q s t u v => by
  have := h1.1
  rw [h2.2 r z (by omega) (by omega) (by omega)]; exact h1.2 r z p q s t u v⟩
theorem fE_.ap {a b c : mt_M} {e : Int} {l : List Int} (h1 : fE_ a e b) (h2 : ap_ b l c) : fE_ a e c := ⟨by have := h1.1; have := h2.1; omega, fun r z p q s t u v => by
  have := h1.1
  rw [h2.2.2 r z (by omega) (by omega)]; exact h1.2 r z p q s t u v⟩
theorem fE_.dat {a b : mt_M} {e w v : Int} (h1 : fE_ a e b) (hw : 0 ≤ w) : fE_ a e (st_ b 185 (16 * e + w) v) := ⟨by rw [st_ne (by omega)]; exact h1.1, fun r z p q s t u v => by
  rw [st_ne (by omega)]; exact h1.2 r z p q s t u v⟩
theorem fE_.lay {a b c : mt_M} {e : Int} (h1 : fE_ a e b) (h2 : ∀ (r : Nat) (z : Int), r ≠ 188 → (r ≠ 182 ∨ z ≠ 10) → c r z = b r z) : fE_ a e c := ⟨by rw [h2 _ _ (by decide) (by decide)]; exact h1.1, fun r z p q s t u v => by
  rw [h2 r z t (by omega)]; exact h1.2 r z p q s t u v⟩
theorem fE_.fnd {a b c : mt_M} {e : Int} (h1 : fE_ a e b) (h2 : ∀ r : Nat, r ≠ 189 → c r = b r) : fE_ a e c := ⟨by rw [h2 _ (by decide)]; exact h1.1, fun r z p q s t u v => by
  rw [h2 r u]; exact h1.2 r z p q s t u v⟩
theorem fE_.ups {a b : mt_M} {e : Int} (h : fE_ a e b) : ups a b := ⟨h.1, fun z hz => h.2 _ _ (Or.inr hz) (Or.inl (by decide)) (Or.inl (by decide)) (by decide) (by decide) (Or.inl (by decide))⟩
theorem fE_.src {a b : mt_M} {e : Int} (h : fE_ a e b) : b 184 = a 184 := by funext z; exact h.2 _ _ (Or.inl (by decide)) (Or.inl (by decide)) (Or.inl (by decide)) (by decide) (by decide) (Or.inl (by decide))
/-- what taking an entity leaves alone -/
def fT_ (mem m : mt_M) : Prop := ∀ (r : Nat) (z : Int), r ≠ 187 → r ≠ 186 → r ≠ 185 → r ≠ 188 → r ≠ 189 → (r ≠ 182 ∨ (z ≠ 13 ∧ z ≠ 14 ∧ z ≠ 15 ∧ z ≠ 16 ∧ z ≠ 9 ∧ z ≠ 10 ∧ z ≠ 5)) → m r z = mem r z
def tP_ (mem : mt_M) (L : List mt_E) (S : List mt_R) (x : mt_R) (v : Option Value) (m' : mt_M) : Prop := v = none ∧ RepE m' (tk1 (mem 184) L x).1 ∧ m' 182 5 = (tk1 (mem 184) L x).1.length ∧ rg_ m' (S ++ (tk1 (mem 184) L x).2.reverse) ∧ tb_ m' ∧ (L.length ≠ 16 → m' 182 9 ≤ mem 182 9 + 2 * ((eF (mem 184) x).2 - x.1) + 20 + (if (eK (mem 184) x).1 = 0 then x.2.1 - (eF (mem 184) x).2 else 0)) ∧ (L.length = 16 → m' 182 9 = mem 182 9) ∧ fT_ mem m'
theorem slc_by {f : Int → Int} {p e : Int} (h : by_ f p e) : ∀ c ∈ slc f p e, 0 ≤ c ∧ c ≤ 255 := by
  intro c hc
  obtain ⟨i, hi, rfl⟩ := List.getElem_of_mem hc
  rw [slc_len] at hi
  have := slc_get (f := f) (p := p) (e := e) (i := i) (by omega) (by omega)
  rw [show ((i : Int)).toNat = i from rfl, List.getElem?_eq_getElem (by rw [slc_len]; omega)] at this
  rw [Option.some.inj this]
  exact h _ (by omega) (by omega)
theorem dgs_b : ∀ (L : List Int), ∀ d ∈ dgs L, 0 ≤ d ∧ d ≤ 63
  | [], d, h => by simp [dgs] at h
  | c :: t, d, h => by
    rw [dgs] at h
    split at h
    · simp at h
    · split at h
      · rcases List.mem_cons.mp h with h | h
        · subst h; have := ltv_b c; omega
        · exact dgs_b t d h
      · exact dgs_b t d h
theorem gr_b : ∀ (L : List Int), (∀ d ∈ L, 0 ≤ d ∧ d ≤ 63) → ∀ c ∈ gr L, 0 ≤ c ∧ c ≤ 255
  | a :: b :: c :: d :: t, h, x, hx => by
    have ha := h a (by simp)
    have hb := h b (by simp)
    have hc := h c (by simp)
    have hd := h d (by simp)
    rw [gr] at hx
    rcases List.mem_cons.mp hx with hx | hx
    · omega
    · rcases List.mem_cons.mp hx with hx | hx
      · omega
      · rcases List.mem_cons.mp hx with hx | hx
        · omega
        · exact gr_b t (fun z hz => h z (by simp [hz])) x hx
  | [a, b, c], h, x, hx => by
    have ha := h a (by simp)
    have hb := h b (by simp)
    have hc := h c (by simp)
    rw [gr] at hx
    rcases List.mem_cons.mp hx with hx | hx
    · omega
    · simp at hx; omega
  | [a, b], h, x, hx => by
    have ha := h a (by simp)
    have hb := h b (by simp)
    rw [gr] at hx
    simp at hx; omega
  | [a], h, x, hx => by simp [gr] at hx
  | [], h, x, hx => by simp [gr] at hx
theorem qpd_b : ∀ (n : Nat) (L : List Int), (∀ d ∈ L, 0 ≤ d ∧ d ≤ 255) → ∀ c ∈ qpd n L, 0 ≤ c ∧ c ≤ 255
  | 0, L, h, x, hx => by simp [qpd] at hx
  | n + 1, [], h, x, hx => by simp [qpd] at hx
  | n + 1, c :: t, h, x, hx => by
    have hc := h c (by simp)
    have ht : ∀ d ∈ t, 0 ≤ d ∧ d ≤ 255 := fun d hd => h d (by simp [hd])
    rw [qpd] at hx
    split at hx
    · split at hx
      · rename_i b hb
        have hb2 : 0 ≤ b ∧ b ≤ 255 := by
          unfold hp_ at hb
          split at hb
          · rename_i a1 b1 _
            split at hb
            · have := Option.some.inj hb
              have g1 := hx_b a1
              have g2 := hx_b b1
              omega
            · cases hb
          · cases hb
        rcases List.mem_cons.mp hx with hx | hx
        · omega
        · exact qpd_b n _ (fun d hd => ht d (List.mem_of_mem_drop hd)) x hx
      · split at hx
        · exact qpd_b n _ (fun d hd => ht d ((bb_suf t).subset (List.mem_of_mem_drop hd))) x hx
        · rcases List.mem_cons.mp hx with hx | hx
          · omega
          · exact qpd_b n _ ht x hx
    · split at hx
      · exact qpd_b n _ (fun d hd => h d ((bb_suf (c :: t)).subset hd)) x hx
      · rcases List.mem_cons.mp hx with hx | hx
        · omega
        · exact qpd_b n _ ht x hx
theorem dec_by {en : Int} {L : List Int} (h : ∀ d ∈ L, 0 ≤ d ∧ d ≤ 255) : ∀ c ∈ dec_ en L, 0 ≤ c ∧ c ≤ 255 := by
  unfold dec_
  split
  · exact gr_b _ (dgs_b L)
  · split
    · exact qpd_b _ L h
    · exact h
theorem kndO_b (o : Option (List Int)) (d : Int) : ((kndO_ o d).1 = 0 ∨ (kndO_ o d).1 = 1 ∨ (kndO_ o d).1 = 2) ∧ ((kndO_ o d).1 = 1 → bd_ (kndO_ o d).2 = true) ∧ ((kndO_ o d).1 ≠ 1 → (kndO_ o d).2 = []) := by
  have hm : ∀ r, ((mlt r).1 = 0 ∨ (mlt r).1 = 1 ∨ (mlt r).1 = 2) ∧ ((mlt r).1 = 1 → bd_ (mlt r).2 = true) ∧ ((mlt r).1 ≠ 1 → (mlt r).2 = []) := by
    intro r
    unfold mlt
    split
    · simp
    · split
      · rename_i hb; exact ⟨Or.inr (Or.inl rfl), fun _ => hb, fun z => absurd rfl z⟩
      · simp
  have h2 : ∀ y, ((kn2 y).1 = 0 ∨ (kn2 y).1 = 1 ∨ (kn2 y).1 = 2) ∧ ((kn2 y).1 = 1 → bd_ (kn2 y).2 = true) ∧ ((kn2 y).1 ≠ 1 → (kn2 y).2 = []) := by
    intro y
    cases y with
    | none => simp [kn2]
    | some q =>
      obtain ⟨t, s, r⟩ := q
      have e9 : kn2 (some (t, s, r)) = if wd_ w_message t ∧ wd_ w_rfc822 s then (2, []) else if wd_ w_multipart t then mlt r else (0, []) := rfl
      rw [e9]
      split
      · simp
      · split
        · exact hm r
        · simp
  unfold kndO_
  split
  · simp
  · split
    · simp
    · exact h2 _
theorem tb_.dat {m : mt_M} {z v : Int} (h : tb_ m) : tb_ (st_ m 185 z v) := ⟨by rw [st_ne (by omega)]; exact h.1, by rw [st_ne (by omega)]; exact h.2.1, by rw [st_row (by decide), st_ne (by omega)]; exact h.2.2⟩
theorem ups.dat {m : mt_M} {z v : Int} : ups m (st_ m 185 z v) := ⟨by rw [st_ne (by omega)]; exact Int.le_refl _, fun _ _ => by rw [st_row (by decide)]⟩
theorem repF.dat {m : mt_M} {e w v : Int} {L : List (List Int × List Int)} (h : repF m e L) (hw : w ≠ 3) : repF (st_ m 185 (16 * e + w) v) e L := h.mov ups.dat (fun z _ _ => by rw [st_row (by decide)]) (by rw [st_ne (by omega)])
theorem cM_takeEntity {G : mt_G} {l : Launch} {mem : mt_M} {L : List mt_E} {S : List mt_R} {x : mt_R} (hL : RepE mem L) (hLn : mem 182 5 = L.length) (hL16 : L.length ≤ 16) (hS : rg_ mem (S ++ [x])) (hx0 : 0 ≤ x.1) (hx1 : x.1 ≤ x.2.1) (hx2 : x.2.1 ≤ 320) (hdep : 1 ≤ x.2.2.1 ∧ x.2.2.1 ≤ 4) (hpar : -1 ≤ x.2.2.2) (hparl : x.2.2.2 < L.length) (hb : by_ (mem 184) x.1 x.2.1) (ht : tb_ mem) (hro : mem 182 9 + 2 * (x.2.1 - x.1) + 20 ≤ 1400) (hpl : S.length ≤ 240) : CT G l y_M_takeEntity c_M_takeEntity 8 none 7 [vr G 182] mem (tP_ mem L S x) := by
  refine CT.intro (by decide) rfl (Nat.le_of_ble_eq_true rfl) (fun X h he => ?_)
  obtain ⟨hS1, hS2⟩ := hS
  rw [List.length_append] at hS1
  simp only [List.length_cons, List.length_nil] at hS1
  obtain ⟨r1, r2, r3, r4⟩ := hS2 S.length x (by simp)
  have hSr : ∀ (i : Nat) (y : mt_R), S[i]? = some y → mem 188 (4 * (i : Int)) = y.1 ∧ mem 188 (4 * (i : Int) + 1) = y.2.1 ∧ mem 188 (4 * (i : Int) + 2) = y.2.2.1 ∧ mem 188 (4 * (i : Int) + 3) = y.2.2.2 := fun i y hy => hS2 i y (by rw [List.getElem?_append_left (List.getElem?_eq_some_iff.mp hy).1]; exact hy)
  by_cases h16 : L.length = 16
  · have e1 : tk1 (mem 184) L x = (L, []) := if_pos h16
    refine jj_aload_n h d_M_takeEntity_0 rfl ⟨_, rfl⟩ ?_
    refine jj_dup h d_M_takeEntity_1 rfl ?_
    refine jj_g_M_pile h  fl_M_175 d_M_takeEntity_2 ?_
    try simp only [st_at, Nat.reduceEqDiff, Int.reduceEq, and_self, true_and, and_true, false_and, and_false, reduceIte, hS1, hLn]
    refine jj_iconst h d_M_takeEntity_5 ?_
    refine jj_isub h d_M_takeEntity_6 ?_
    refine jj_p_M_pile h  fl_M_175 d_M_takeEntity_7 ?_
    refine jj_aload_n h d_M_takeEntity_10 rfl ⟨_, rfl⟩ ?_
    refine jj_g_M_entities h  fl_M_196 d_M_takeEntity_11 ?_
    try simp only [st_at, Nat.reduceEqDiff, Int.reduceEq, and_self, true_and, and_true, false_and, and_false, reduceIte, hS1, hLn]
    refine jj_bipush h d_M_takeEntity_14 (by decide) ?_
    refine jj_icmp_ne h 20 d_M_takeEntity_16 (by decide) ⟨by omega, by omega⟩ ⟨by omega, by omega⟩ (fun q16 => absurd (by omega) q16) (fun _ => ?_)
    refine jj_vret h he d_M_takeEntity_19 ?_
    unfold tP_
    rw [e1]
    generalize hm9 : st_ mem 182 10 _ = m9
    have g1 : ∀ (r : Nat) (z : Int), (r ≠ 182 ∨ z ≠ 10) → m9 r z = mem r z := fun r z q => by rw [← hm9, st_ne q]
    have g2 : m9 182 10 = S.length := by rw [← hm9, st_same]; omega
    have gr : ∀ r : Nat, r ≠ 182 → m9 r = mem r := fun r hr => by funext z; exact g1 r z (Or.inl hr)
    have hu : ups mem m9 := ⟨by rw [g1 _ _ (by decide)]; exact Int.le_refl _, fun z _ => by rw [gr _ (by decide)]⟩
    refine ⟨rfl, hL.mov hu (fun z _ _ => by rw [gr _ (by decide)]) (fun z _ _ => by rw [gr _ (by decide)]), by rw [g1 _ _ (by decide)]; exact hLn, ⟨by rw [g2]; simp, fun i y hy => by rw [gr _ (by decide)]; exact hSr i y (by simpa using hy)⟩, ⟨by rw [g1 _ _ (by decide)]; exact ht.1, by rw [g1 _ _ (by decide)]; exact ht.2.1, by rw [g1 _ _ (by decide), gr _ (by decide)]; exact ht.2.2⟩, fun z => absurd h16 z, fun _ => g1 _ _ (by decide), fun r z _ _ _ _ _ q => g1 r z (by omega)⟩
  · have htk : tk1 (mem 184) L x = (bmpI L x.2.2.2 ++ [mkE (mem 184) x], chE (mem 184) x L.length) := if_neg h16
    unfold tP_ at he
    rw [htk] at he
    obtain ⟨b, s, dep, par⟩ := x
    dsimp only at hx0 hx1 hx2 hdep hpar hparl hb hro r1 r2 r3 r4 he
    generalize hx9 : ((b, s, dep, par) : mt_R) = x at *
    have xb : x.1 = b := by rw [← hx9]
    have xs : x.2.1 = s := by rw [← hx9]
    have xd : x.2.2.1 = dep := by rw [← hx9]
    have xp : x.2.2.2 = par := by rw [← hx9]
    generalize hf : mem 184 = f at *
    generalize hee : (L.length : Int) = e at *
    have he16 : e < 16 := by omega
    have he0 : 0 ≤ e := by omega
    have hFi := flds_inv (f := f) (b := b) (s := s) hx1
    have hFd : flds f b s = eF f x := by unfold eF; rw [xb, xs]
    rw [hFd] at hFi
    generalize hbody : (eF f x).2 = body at *
    generalize hfl : (eF f x).1 = fl at *
    have hen : eN f x = encO_ (fnd w_cte fl) := by unfold eN; rw [hfl]
    have hK : eK f x = kndO_ (fnd w_ctype fl) dep := by unfold eK; rw [hfl, xd]
    have segB : ∀ mA : mt_M, mA 182 10 = S.length → mA 182 5 = e + 1 → (∀ z : Int, mA 185 z = if z = 16 * e + 9 then s else if z = 16 * e + 7 then b else if 0 ≤ par ∧ z = 16 * par + 6 then mem 185 z + 1 else if z = 16 * e + 2 then par else if z = 16 * e + 1 then dep else if 16 * e ≤ z ∧ z < 16 * e + 16 then 0 else mem 185 z) → (∀ (r : Nat) (z : Int), r ≠ 185 → (r ≠ 182 ∨ (z ≠ 10 ∧ z ≠ 5)) → mA r z = mem r z) → ∀ x5 x6 x7, JJ G X 0 0 mA 166 [some (vr G 182), some (vi e), some (vi b), some (vi s), some (vi par), x5, x6, x7] [] := by
      intro mA A1 A2 A3 A4 x5 x6 x7
      have AT : mA 182 9 = mem 182 9 := A4 _ _ (by decide) (by decide)
      have AX : mA 187 = mem 187 := by funext z; exact A4 _ _ (by decide) (Or.inl (by decide))
      have AS : mA 184 = f := by funext z; rw [A4 _ _ (by decide) (Or.inl (by decide)), hf]
      have AF : mA 186 = mem 186 := by funext z; exact A4 _ _ (by decide) (Or.inl (by decide))
      have AR : mA 188 = mem 188 := by funext z; exact A4 _ _ (by decide) (Or.inl (by decide))
      have Atb : tb_ mA := ⟨by rw [AT]; exact ht.1, by rw [AT]; exact ht.2.1, by rw [AT, AX]; exact ht.2.2⟩
      have A30 : mA 185 (16 * e + 3) = 0 := by rw [A3, if_neg (by omega), if_neg (by omega), if_neg (by omega), if_neg (by omega), if_neg (by omega), if_pos (by omega)]
      have Arg : rg_ mA S := ⟨A1, fun i y hy => by rw [AR]; exact hSr i y hy⟩
      -- the end: entity e stands, and its parts lie on the pile
      have done : ∀ mF : mt_M, fE_ mA e mF → rE mF e (mkE f x) → rg_ mF (S ++ (chE f x e).reverse) → tb_ mF → mF 182 9 ≤ mem 182 9 + 2 * (body - b) + 20 + (if (eK f x).1 = 0 then s - body else 0) → (((none : Option Value) = none) ∧ RepE mF (bmpI L par ++ [mkE f x]) ∧ mF 182 5 = ((bmpI L par ++ [mkE f x]).length : Int) ∧ rg_ mF (S ++ (chE f x e).reverse) ∧ tb_ mF ∧ (L.length ≠ 16 → mF 182 9 ≤ mem 182 9 + 2 * (body - b) + 20 + (if (eK f x).1 = 0 then s - body else 0)) ∧ (L.length = 16 → mF 182 9 = mem 182 9) ∧ fT_ mem mF) := by
        intro mF F1 F2 F3 F4 F5
        have hu : ups mem mF := ⟨by have := F1.1; omega, fun z hz => by rw [F1.ups.2 z (by omega), AX]⟩
        refine ⟨rfl, RepE.snoc (hL.bump hpar (by omega) hu (fun z z0 z1 => ?_) (fun z z0 z1 => ?_)) (by rw [bmpI_len, hee]; exact F2), ?_, F3, F4, fun _ => F5, fun z => absurd z h16, fun r z a1 a2 a3 a4 a5 a6 => ?_⟩
        · rw [F1.2 _ _ (Or.inl (by decide)) (Or.inr (by omega)) (Or.inl (by decide)) (by decide) (by decide) (Or.inl (by decide)), AF]
        · rw [F1.2 _ _ (Or.inl (by decide)) (Or.inl (by decide)) (Or.inr (by omega)) (by decide) (by decide) (Or.inl (by decide)), A3]
          by_cases hp9 : 0 ≤ par ∧ z = 16 * par + 6
          · rw [if_neg (by omega), if_neg (by omega), if_pos hp9, if_pos hp9]
          · rw [if_neg (by omega), if_neg (by omega), if_neg hp9, if_neg (by omega), if_neg (by omega), if_neg (by omega), if_neg hp9]
        · rw [F1.2 _ _ (Or.inl (by decide)) (Or.inl (by decide)) (Or.inl (by decide)) (by decide) (by decide) (Or.inr (by decide)), A2, List.length_append, bmpI_len]; simp only [List.length_cons, List.length_nil]; omega
        · rw [F1.2 r z (Or.inl a1) (Or.inl a2) (Or.inl a3) a4 a5 (by omega)]; exact A4 r z a3 (by omega)
      refine jj_aload_n h d_M_takeEntity_166 rfl ⟨_, rfl⟩ ?_
      refine jj_iload_n h d_M_takeEntity_167 rfl ?_
      refine jj_bipush h d_M_takeEntity_168 (by decide) ?_
      refine jj_aload_n h d_M_takeEntity_170 rfl ⟨_, rfl⟩ ?_
      refine jj_iload_n h d_M_takeEntity_171 rfl ?_
      refine jj_iload_n h d_M_takeEntity_172 rfl ?_
      refine jj_iload_n h d_M_takeEntity_173 rfl ?_
      refine jj_callV h (cM_fields he0 he16 hx0 hx1 hx2 (by rw [AS]; exact hb) A30 Atb (by omega)) cv_M_199 (ro_of he (by decide) (by decide)) rfl rfl (by decide) rfl rfl rfl (Nat.le_of_ble_eq_true rfl) d_M_takeEntity_174 (fun v m174 hv => ?_)
      obtain ⟨rfl, q1, q2, q3, q4, q5, q6⟩ := hv
      rw [AS, hFd] at q1 q4 q5 q6
      rw [AS, hFd, hbody]
      rw [hfl] at q1
      rw [hbody] at q4 q5 q6
      have E1 := (fE_.rf (mem := mA) (e := e)).fF q2
      refine jj_callV h (cM_set (by omega) (by omega)) cv_M_70 (ro_of he (by decide) (by decide)) rfl rfl (by decide) rfl rfl rfl (Nat.le_of_ble_eq_true rfl) d_M_takeEntity_177 (fun v m177 hv => ?_)
      obtain ⟨rfl, rfl⟩ := hv
      have q7 : repF (st_ m174 185 (16 * e + 8) body) e fl := q1.dat (by decide)
      have q8 : tb_ (st_ m174 185 (16 * e + 8) body) := q3.dat
      have E2 := E1.dat (w := 8) (v := body) (by decide)
      have T2 : (st_ m174 185 (16 * e + 8) body) 182 9 = m174 182 9 := by rw [st_ne (by omega)]
      refine jj_aload_n h d_M_takeEntity_180 rfl ⟨_, rfl⟩ ?_
      refine jj_iload_n h d_M_takeEntity_181 rfl ?_
      refine jj_iconst h d_M_takeEntity_182 ?_
      refine jj_aload_n h d_M_takeEntity_183 rfl ⟨_, rfl⟩ ?_
      refine jj_iload_n h d_M_takeEntity_184 rfl ?_
      refine jj_callV h (cM_encoding q8 (q7.fw he0 he16) (fld_of q7)) cv_M_202 (ro_of he (by decide) (by decide)) rfl rfl (by decide) rfl rfl rfl (Nat.le_of_ble_eq_true rfl) d_M_takeEntity_185 (fun v m185 hv => ?_)
      obtain ⟨rfl, q9, q10⟩ := hv
      rw [← hen]
      have E3 := E2.fs q9
      have q11 : repF m185 e fl := q7.mov ⟨q9.1, fun z hz => q9.2 _ _ (Or.inr hz) (Or.inl (by decide))⟩ (fun z _ _ => q9.2 _ _ (Or.inl (by decide)) (Or.inl (by decide))) (q9.2 _ _ (Or.inl (by decide)) (Or.inl (by decide)))
      have q12 : tb_ m185 := ⟨by rw [q10]; exact q8.1, by rw [q10]; exact q8.2.1, by rw [q10]; intro i i0 i1; rw [q9.2 _ _ (Or.inr i1) (Or.inl (by decide))]; exact q8.2.2 i i0 i1⟩
      have D3 : m185 185 = (st_ m174 185 (16 * e + 8) body) 185 := q9.row (by decide) (by decide)
      refine jj_callV h (cM_set (by omega) (by omega)) cv_M_70 (ro_of he (by decide) (by decide)) rfl rfl (by decide) rfl rfl rfl (Nat.le_of_ble_eq_true rfl) d_M_takeEntity_188 (fun v m188 hv => ?_)
      obtain ⟨rfl, rfl⟩ := hv
      have q13 : repF (st_ m185 185 (16 * e + 4) (eN f x)) e fl := q11.dat (by decide)
      have q14 : tb_ (st_ m185 185 (16 * e + 4) (eN f x)) := q12.dat
      have E4 := E3.dat (w := 4) (v := eN f x) (by decide)
      have T4 : (st_ m185 185 (16 * e + 4) (eN f x)) 182 9 = m174 182 9 := by rw [st_ne (by omega), q10, T2]
      have D4 : (st_ m185 185 (16 * e + 4) (eN f x)) 185 (16 * e + 1) = dep := by rw [st_ne (by omega), D3, st_ne (by omega), q2.2 _ _ (Or.inl (by decide)) (Or.inl (by decide)) (Or.inl (by decide)) (Or.inr (by omega)), A3, if_neg (by omega), if_neg (by omega), if_neg (by omega), if_neg (by omega), if_pos rfl]
      refine jj_aload_n h d_M_takeEntity_191 rfl ⟨_, rfl⟩ ?_
      refine jj_iload_n h d_M_takeEntity_192 rfl ?_
      refine jj_callV h (cM_kind (B := body - b + 20) q14 (q13.fw he0 he16) (fld_of q13) D4 ⟨by omega, by omega⟩ (fun f9 g0 g1 => by have := q13.vs hFi.2.2.2 f9 g0 g1; omega) (by omega) (by omega)) cv_M_205 (ro_of he (by decide) (by decide)) rfl rfl (by decide) rfl rfl rfl (Nat.le_of_ble_eq_true rfl) d_M_takeEntity_193 (fun v m193 hv => ?_)
      rw [← hK] at hv
      obtain ⟨rfl, k1, k2, k3, k4, k5⟩ := hv
      have hKb := kndO_b (fnd w_ctype fl) dep
      rw [← hK] at hKb
      have E5 := E4.fK k1
      refine jj_istore h d_M_takeEntity_196 (Nat.le_of_ble_eq_true rfl) rfl ?_
      refine jj_aload_n h d_M_takeEntity_198 rfl ⟨_, rfl⟩ ?_
      refine jj_iload_n h d_M_takeEntity_199 rfl ?_
      refine jj_iconst h d_M_takeEntity_200 ?_
      refine jj_iload h d_M_takeEntity_201 rfl ?_
      refine jj_callV h (cM_set (by omega) (by omega)) cv_M_70 (ro_of he (by decide) (by decide)) rfl rfl (by decide) rfl rfl rfl (Nat.le_of_ble_eq_true rfl) d_M_takeEntity_203 (fun v m203 hv => ?_)
      obtain ⟨rfl, rfl⟩ := hv
      generalize hmK : st_ m193 185 (16 * e + 0) (eK f x).1 = mK
      have E6 : fE_ mA e mK := by rw [← hmK]; exact E5.dat (by decide)
      have TK : mK 182 9 = m193 182 9 := by rw [← hmK, st_ne (by omega)]
      have XK : mK 187 = m193 187 := by rw [← hmK, st_row (by decide)]
      have FK : mK 186 = m193 186 := by rw [← hmK, st_row (by decide)]
      have SK : mK 184 = f := E6.src.trans AS
      have DK : ∀ w : Int, 0 ≤ w → w ≤ 10 → w ≠ 0 → mK 185 (16 * e + w) = if w = 4 then eN f x else if w = 8 then body else m174 185 (16 * e + w) := by
        intro w w0 w1 w2
        rw [← hmK, st_ne (by omega), k1.2 _ _ (Or.inl (by decide)) (Or.inl (by decide)) (Or.inr (by omega)), st_at, D3, st_at]
        by_cases h4 : w = 4
        · rw [if_pos ⟨rfl, by omega⟩, if_pos h4]
        · rw [if_neg (by omega), if_neg h4]
          by_cases h8 : w = 8
          · rw [if_pos ⟨rfl, by omega⟩, if_pos h8]
          · rw [if_neg (by omega), if_neg h8]
      have DA : ∀ w : Int, 0 ≤ w → w ≤ 10 → w ≠ 3 → m174 185 (16 * e + w) = mA 185 (16 * e + w) := fun w w0 w1 w3 => q2.2 _ _ (Or.inl (by decide)) (Or.inl (by decide)) (Or.inl (by decide)) (Or.inr (by omega))
      have R5 : mK 185 (16 * e + 5) = 0 := by rw [DK 5 (by decide) (by decide) (by decide), if_neg (by decide), if_neg (by decide), DA 5 (by decide) (by decide) (by decide), A3, if_neg (by omega), if_neg (by omega), if_neg (by omega), if_neg (by omega), if_neg (by omega), if_pos (by omega)]
      have R10 : mK 185 (16 * e + 10) = 0 := by rw [DK 10 (by decide) (by decide) (by decide), if_neg (by decide), if_neg (by decide), DA 10 (by decide) (by decide) (by decide), A3, if_neg (by omega), if_neg (by omega), if_neg (by omega), if_neg (by omega), if_neg (by omega), if_pos (by omega)]
      have RK : ∀ w : Int, 0 ≤ w → w ≤ 9 → w ≠ 5 → mK 185 (16 * e + w) = eR f x w := by
        intro w w0 w1 w5
        have hw : w = 0 ∨ w = 1 ∨ w = 2 ∨ w = 3 ∨ w = 4 ∨ w = 6 ∨ w = 7 ∨ w = 8 ∨ w = 9 := by omega
        rcases hw with rfl | rfl | rfl | rfl | rfl | rfl | rfl | rfl | rfl
        · rw [← hmK, st_same]; rfl
        · rw [DK 1 (by decide) (by decide) (by decide), if_neg (by decide), if_neg (by decide), DA 1 (by decide) (by decide) (by decide), A3, if_neg (by omega), if_neg (by omega), if_neg (by omega), if_neg (by omega), if_pos rfl]; exact xd.symm
        · rw [DK 2 (by decide) (by decide) (by decide), if_neg (by decide), if_neg (by decide), DA 2 (by decide) (by decide) (by decide), A3, if_neg (by omega), if_neg (by omega), if_neg (by omega), if_pos rfl]; exact xp.symm
        · rw [DK 3 (by decide) (by decide) (by decide), if_neg (by decide), if_neg (by decide), q1.1]; show _ = ((eF f x).1.length : Int); rw [hfl]
        · rw [DK 4 (by decide) (by decide) (by decide), if_pos rfl]; rfl
        · rw [DK 6 (by decide) (by decide) (by decide), if_neg (by decide), if_neg (by decide), DA 6 (by decide) (by decide) (by decide), A3, if_neg (by omega), if_neg (by omega), if_neg (by omega), if_neg (by omega), if_neg (by omega), if_pos (by omega)]; rfl
        · rw [DK 7 (by decide) (by decide) (by decide), if_neg (by decide), if_neg (by decide), DA 7 (by decide) (by decide) (by decide), A3, if_neg (by omega), if_pos rfl]; exact xb.symm
        · rw [DK 8 (by decide) (by decide) (by decide), if_neg (by decide), if_pos rfl]; exact hbody.symm
        · rw [DK 9 (by decide) (by decide) (by decide), if_neg (by decide), if_neg (by decide), DA 9 (by decide) (by decide) (by decide), A3, if_pos rfl]; exact xs.symm
      have QK : repF mK e fl := by
        rw [← hmK]
        refine repF.dat ?_ (by decide)
        exact q13.mov ⟨k1.1, fun z hz => k1.2 _ _ (Or.inr hz) (Or.inl (by decide)) (Or.inl (by decide))⟩ (fun z _ _ => k1.2 _ _ (Or.inl (by decide)) (Or.inl (by decide)) (Or.inl (by decide))) (k1.2 _ _ (Or.inl (by decide)) (Or.inl (by decide)) (Or.inr (by omega)))
      have hk0 := k1.1
      have hT0 := q3.1
      have BK : tb_ mK := ⟨by omega, by omega, by rw [TK, XK]; exact k2⟩
      have GK : rg_ mK S := by
        have hp9 : ∀ (r : Nat) (z : Int), (r = 182 ∧ z = 10) ∨ r = 188 → mK r z = mA r z := by
          intro r z hrz
          have hr1 : r ≠ 185 ∧ r ≠ 187 ∧ r ≠ 186 := by omega
          rw [← hmK, st_ne (Or.inl hr1.1), k1.2 _ _ (Or.inl hr1.2.1) (by omega) (Or.inl hr1.1), st_ne (Or.inl hr1.1), q9.2 _ _ (Or.inl hr1.2.1) (by omega), st_ne (Or.inl hr1.1), q2.2 _ _ (Or.inl hr1.2.1) (by omega) (Or.inl hr1.2.2) (Or.inl hr1.1)]
        refine ⟨by rw [hp9 _ _ (Or.inl ⟨rfl, rfl⟩)]; exact A1, fun i y hy => ?_⟩
        have hR : mK 188 = mem 188 := by funext z; rw [hp9 _ _ (Or.inr rfl), AR]
        rw [hR]; exact hSr i y hy
      have hTK : mK 182 9 ≤ mem 182 9 + 2 * (body - b) + 20 := by omega
      clear D3 DK DA
      have hch0 : (eK f x).1 = 0 → chE f x e = [] := fun z => by unfold chE; rw [if_neg (by omega), if_neg (by omega)]
      have hch2 : (eK f x).1 = 2 → chE f x e = [(body, s, dep + 1, e)] := fun z => by unfold chE; rw [if_pos z, hbody, xs, xd]
      have hch1 : (eK f x).1 = 1 → chE f x e = (parts_ f body s (eK f x).2).map (fun q => (q.1, q.2, dep + 1, e)) := fun z => by unfold chE; rw [if_neg (by omega), if_pos z, hbody, xs, xd]
      have hC0 : (eK f x).1 ≠ 0 → eC f x = [] := fun z => if_neg z
      have h8 : mK 185 (16 * e + 8) = body := by rw [RK 8 (by decide) (by decide) (by decide)]; exact hbody
      have h9 : mK 185 (16 * e + 9) = s := by rw [RK 9 (by decide) (by decide) (by decide)]; exact xs
      have h4 : mK 185 (16 * e + 4) = eN f x := by rw [RK 4 (by decide) (by decide) (by decide)]; rfl
      have h1 : mK 185 (16 * e + 1) = dep := by rw [RK 1 (by decide) (by decide) (by decide)]; exact xd
      have hNb : 0 ≤ eN f x ∧ eN f x ≤ 2 := by
        rw [hen]; unfold encO_
        split
        · decide
        · unfold enc_
          split
          · decide
          · split
            · split
              · decide
              · split <;> decide
            · decide
      -- a thing with parts, whose parts lie on the pile
      have nonleaf : ∀ mF : mt_M, (eK f x).1 ≠ 0 → fE_ mK e mF → mF 182 9 = mK 182 9 → mF 187 = mK 187 → mF 186 = mK 186 → mF 185 = mK 185 → rg_ mF (S ++ (chE f x e).reverse) → fE_ mA e mF → (((none : Option Value) = none) ∧ RepE mF (bmpI L par ++ [mkE f x]) ∧ mF 182 5 = ((bmpI L par ++ [mkE f x]).length : Int) ∧ rg_ mF (S ++ (chE f x e).reverse) ∧ tb_ mF ∧ (L.length ≠ 16 → mF 182 9 ≤ mem 182 9 + 2 * (body - b) + 20 + (if (eK f x).1 = 0 then s - body else 0)) ∧ (L.length = 16 → mF 182 9 = mem 182 9) ∧ fT_ mem mF) := by
        intro mF z1 z2 z3 z4 z5 z6 z7 z8
        refine done mF z8 ⟨fun w w0 w1 => ?_, ?_, ?_, fun k => ?_⟩ z7 ⟨by rw [z3]; exact BK.1, by rw [z3]; exact BK.2.1, by rw [z3, z4]; exact BK.2.2⟩ (by rw [if_neg z1]; omega)
        · rw [z6]
          by_cases w5 : w = 5
          · subst w5; rw [R5]; show (0 : Int) = ((eC f x).length : Int); rw [hC0 z1]; rfl
          · exact RK w w0 w1 w5
        · show repF mF e (eF f x).1
          rw [hfl]
          exact QK.mov ⟨by omega, fun z _ => by rw [z4]⟩ (fun z _ _ => by rw [z5]) (by rw [z6])
        · have e5 : (mkE f x).1 5 = 0 := by show ((eC f x).length : Int) = 0; rw [hC0 z1]; rfl
          have e6 : (mkE f x).2.2.1 = [] := hC0 z1
          rw [z6, R10, e5, e6]
          exact ⟨Int.le_refl _, rfl, by rw [z3]; have := BK.1; omega, slc_nil (Int.le_refl _)⟩
        · have k9 : (eK f x).1 = 1 := k
          obtain ⟨b1, b2, b3, b4⟩ := k4 k9
          have hd : ∀ w : Int, w = 11 ∨ w = 12 → mF 185 (16 * e + w) = m193 185 (16 * e + w) := fun w hw => by rw [z6, ← hmK, st_ne (by omega)]
          rw [hd 11 (by decide), hd 12 (by decide)]
          exact ⟨b1, b2, by omega, by rw [z4, XK]; exact b4⟩
      refine jj_iload h d_M_takeEntity_206 rfl ?_
      refine jj_if_ne h 216 d_M_takeEntity_208 (by decide) ⟨by omega, by omega⟩ (fun q208 => ?_) (fun q208 => ?_)
      · refine jj_iload h d_M_takeEntity_216 rfl ?_
        refine jj_iconst h d_M_takeEntity_218 ?_
        refine jj_icmp_ne h 243 d_M_takeEntity_219 (by decide) ⟨by omega, by omega⟩ ⟨by omega, by omega⟩ (fun q219 => ?_) (fun q219 => ?_)
        · have hk1 : (eK f x).1 = 1 := by omega
          obtain ⟨b1, b2, b3, b4⟩ := k4 hk1
          have hB9 := of_decide_eq_true (hKb.2.1 hk1)
          have hd : ∀ w : Int, w = 11 ∨ w = 12 → mK 185 (16 * e + w) = m193 185 (16 * e + w) := fun w hw => by rw [← hmK, st_ne (by omega)]
          have h11 := hd 11 (by decide)
          have h12 := hd 12 (by decide)
          rw [b2] at b3 b4
          refine jj_iload h d_M_takeEntity_243 rfl ?_
          refine jj_iconst h d_M_takeEntity_245 ?_
          refine jj_icmp_ne h 306 d_M_takeEntity_246 (by decide) ⟨by omega, by omega⟩ ⟨by omega, by omega⟩ (fun q246 => absurd (by omega) q246) (fun _ => ?_)
          refine jj_aload_n h d_M_takeEntity_249 rfl ⟨_, rfl⟩ ?_
          refine jj_iload_n h d_M_takeEntity_250 rfl ?_
          refine jj_callV h (cM_parts (B := (eK f x).2) (b := body) (s := s) he0 he16 (by omega) (by rw [h12]; exact b2) (by rw [h11]; exact b1) (by rw [h11]; omega) (by rw [h11, XK]; exact b4) (by rw [h11, XK]; exact k2.sub b1 b3) h8 h9 (by omega) (by omega) hx2 (by rw [SK]; exact hb.sub (by omega) (Int.le_refl _))) cv_M_214 (ro_of he (by decide) (by decide)) rfl rfl (by decide) rfl rfl rfl (Nat.le_of_ble_eq_true rfl) d_M_takeEntity_251 (fun v m251 hv => ?_)
          obtain ⟨rfl, p1, p2, p3⟩ := hv
          rw [SK] at p1 p2
          rw [SK]
          refine jj_istore h d_M_takeEntity_254 (Nat.le_of_ble_eq_true rfl) rfl ?_
          refine jj_iload h d_M_takeEntity_256 rfl ?_
          refine jj_iconst h d_M_takeEntity_258 ?_
          refine jj_isub h d_M_takeEntity_259 ?_
          refine jj_istore h d_M_takeEntity_260 (Nat.le_of_ble_eq_true rfl) rfl ?_
          generalize hPL : parts_ f body s (eK f x).2 = PL at *
          have hch := hch1 hk1
          have c251 : ∀ (r : Nat) (z : Int), r ≠ 189 → m251 r z = mK r z := fun r z hr => by rw [p3 r hr]
          have lpj : ∀ (j : Nat) (m : mt_M), j ≤ PL.length → rg_ m (S ++ ((PL.map (fun q => ((q.1, q.2, dep + 1, e) : mt_R))).drop j).reverse) → (∀ (r : Nat) (z : Int), r ≠ 188 → (r ≠ 182 ∨ z ≠ 10) → m r z = m251 r z) → JJ G X 0 0 m 262 [some (vr G 182), some (vi e), some (vi b), some (vi s), some (vi par), some (vi (eK f x).1), some (vi PL.length), some (vi ((j : Int) - 1))] [] := by
            intro j
            induction j with
            | zero =>
              intro m j1 j2 j3
              have mr : ∀ r : Nat, r ≠ 188 → r ≠ 182 → r ≠ 189 → m r = mK r := fun r g1 g2 g3 => by funext z; rw [j3 r z g1 (Or.inl g2), c251 r z g3]
              refine jj_iload h d_M_takeEntity_262 rfl ?_
              refine jj_if_lt h 306 d_M_takeEntity_264 (by decide) ⟨by omega, by omega⟩ (fun _ => ?_) (fun q => absurd (by omega) q)
              refine jj_vret h he d_M_takeEntity_306 ?_
              exact nonleaf m q208 ((fE_.rf.fnd p3).lay j3) (by rw [j3 _ _ (by decide) (by decide), c251 _ _ (by decide)]) (mr _ (by decide) (by decide) (by decide)) (mr _ (by decide) (by decide) (by decide)) (mr _ (by decide) (by decide) (by decide)) (by rw [hch]; exact j2) ((E6.fnd p3).lay j3)
            | succ j ihj =>
              intro m j1 j2 j3
              have hj : j < PL.length := by omega
              obtain ⟨g1, g2⟩ := p1 j _ (List.getElem?_eq_getElem hj)
              have f1 : m 189 (2 * (j : Int)) = (PL[j]).1 := by rw [j3 _ _ (by decide) (Or.inl (by decide))]; exact g1
              have f2 : m 189 (2 * (j : Int) + 1) = (PL[j]).2 := by rw [j3 _ _ (by decide) (Or.inl (by decide))]; exact g2
              have hdp : m 185 (16 * e + 1) = dep := by rw [j3 _ _ (by decide) (Or.inl (by decide)), c251 _ _ (by decide)]; exact h1
              have hdr : (PL.map (fun q => ((q.1, q.2, dep + 1, e) : mt_R))).drop j = ((PL[j]).1, (PL[j]).2, dep + 1, e) :: (PL.map (fun q => ((q.1, q.2, dep + 1, e) : mt_R))).drop (j + 1) := by
                rw [List.drop_eq_getElem_cons (by rw [List.length_map]; exact hj)]; simp
              rw [show ((j + 1 : Nat) : Int) - 1 = (j : Int) by omega]
              refine jj_iload h d_M_takeEntity_262 rfl ?_
              refine jj_if_lt h 306 d_M_takeEntity_264 (by decide) ⟨by omega, by omega⟩ (fun q => absurd q (by omega)) (fun _ => ?_)
              refine jj_aload_n h d_M_takeEntity_267 rfl ⟨_, rfl⟩ ?_
              refine jj_aload_n h d_M_takeEntity_268 rfl ⟨_, rfl⟩ ?_
              refine jj_g_M_found h  fl_M_28 d_M_takeEntity_269 ?_
              refine jj_iconst h d_M_takeEntity_272 ?_
              refine jj_iload h d_M_takeEntity_273 rfl ?_
              refine jj_imul h d_M_takeEntity_275 ?_
              refine jj_iaload (N := 400) h (by decide) rfl (by decide) (by omega) (by omega) d_M_takeEntity_276 ?_
              rw [f1]
              refine jj_aload_n h d_M_takeEntity_277 rfl ⟨_, rfl⟩ ?_
              refine jj_g_M_found h  fl_M_28 d_M_takeEntity_278 ?_
              refine jj_iconst h d_M_takeEntity_281 ?_
              refine jj_iload h d_M_takeEntity_282 rfl ?_
              refine jj_imul h d_M_takeEntity_284 ?_
              refine jj_iconst h d_M_takeEntity_285 ?_
              refine jj_iadd h d_M_takeEntity_286 ?_
              refine jj_iaload (N := 400) h (by decide) rfl (by decide) (by omega) (by omega) d_M_takeEntity_287 ?_
              rw [f2]
              refine jj_aload_n h d_M_takeEntity_288 rfl ⟨_, rfl⟩ ?_
              refine jj_iload_n h d_M_takeEntity_289 rfl ?_
              refine jj_iconst h d_M_takeEntity_290 ?_
              refine jj_callV h (cM_of (by omega) (by omega)) cv_M_59 (ro_of he (by decide) (by decide)) rfl rfl (by decide) rfl rfl rfl (Nat.le_of_ble_eq_true rfl) d_M_takeEntity_291 (fun v m291 hv => ?_)
              obtain ⟨rfl, rfl⟩ := hv
              rw [hdp]
              refine jj_iconst h d_M_takeEntity_294 ?_
              refine jj_iadd h d_M_takeEntity_295 ?_
              refine jj_iload_n h d_M_takeEntity_296 rfl ?_
              refine jj_callV h (cM_lay (x := ((PL[j]).1, (PL[j]).2, dep + 1, e)) j2 (by rw [List.length_append, List.length_reverse, List.length_drop, List.length_map]; omega)) cv_M_211 (ro_of he (by decide) (by decide)) rfl rfl (by decide) rfl rfl rfl (Nat.le_of_ble_eq_true rfl) d_M_takeEntity_297 (fun v m297 hv => ?_)
              obtain ⟨rfl, l1, l2⟩ := hv
              refine jj_iinc h d_M_takeEntity_300 rfl rfl ?_
              refine jj_goto h 262 d_M_takeEntity_303 (by decide) ?_
              exact ihj m297 (by omega) (by rw [hdr, List.reverse_cons, ← List.append_assoc]; exact l1) (fun r z a1 a2 => by rw [l2 r z a1 a2]; exact j3 r z a1 a2)
          exact lpj PL.length m251 (Nat.le_refl _) (by rw [List.drop_eq_nil_of_le (by rw [List.length_map]; exact Nat.le_refl _)]; refine ⟨by rw [c251 _ _ (by decide)]; simpa using GK.1, fun i y hy => ?_⟩; rw [p3 _ (by decide)]; exact GK.2 i y (by simpa using hy)) (fun r z _ _ => rfl)
        · refine jj_aload_n h d_M_takeEntity_222 rfl ⟨_, rfl⟩ ?_
          refine jj_aload_n h d_M_takeEntity_223 rfl ⟨_, rfl⟩ ?_
          refine jj_iload_n h d_M_takeEntity_224 rfl ?_
          refine jj_bipush h d_M_takeEntity_225 (by decide) ?_
          refine jj_callV h (cM_of (by omega) (by omega)) cv_M_59 (ro_of he (by decide) (by decide)) rfl rfl (by decide) rfl rfl rfl (Nat.le_of_ble_eq_true rfl) d_M_takeEntity_227 (fun v m227 hv => ?_)
          obtain ⟨rfl, rfl⟩ := hv
          rw [h8]
          refine jj_iload_n h d_M_takeEntity_230 rfl ?_
          refine jj_aload_n h d_M_takeEntity_231 rfl ⟨_, rfl⟩ ?_
          refine jj_iload_n h d_M_takeEntity_232 rfl ?_
          refine jj_iconst h d_M_takeEntity_233 ?_
          refine jj_callV h (cM_of (by omega) (by omega)) cv_M_59 (ro_of he (by decide) (by decide)) rfl rfl (by decide) rfl rfl rfl (Nat.le_of_ble_eq_true rfl) d_M_takeEntity_234 (fun v m234 hv => ?_)
          obtain ⟨rfl, rfl⟩ := hv
          rw [h1]
          refine jj_iconst h d_M_takeEntity_237 ?_
          refine jj_iadd h d_M_takeEntity_238 ?_
          refine jj_iload_n h d_M_takeEntity_239 rfl ?_
          refine jj_callV h (cM_lay (x := (body, s, dep + 1, e)) GK (by omega)) cv_M_211 (ro_of he (by decide) (by decide)) rfl rfl (by decide) rfl rfl rfl (Nat.le_of_ble_eq_true rfl) d_M_takeEntity_240 (fun v m240 hv => ?_)
          obtain ⟨rfl, l1, l2⟩ := hv
          have lr : ∀ r : Nat, r ≠ 188 → r ≠ 182 → m240 r = mK r := fun r g1 g2 => by funext z; exact l2 r z g1 (Or.inl g2)
          refine jj_iload h d_M_takeEntity_243 rfl ?_
          refine jj_iconst h d_M_takeEntity_245 ?_
          refine jj_icmp_ne h 306 d_M_takeEntity_246 (by decide) ⟨by omega, by omega⟩ ⟨by omega, by omega⟩ (fun _ => ?_) (fun q246 => absurd q246 (by omega))
          refine jj_vret h he d_M_takeEntity_306 ?_
          exact nonleaf m240 q208 (fE_.rf.lay l2) (l2 _ _ (by decide) (by decide)) (lr _ (by decide) (by decide)) (lr _ (by decide) (by decide)) (lr _ (by decide) (by decide)) (by rw [hch2 q219]; exact l1) (E6.lay l2)
      · refine jj_aload_n h d_M_takeEntity_211 rfl ⟨_, rfl⟩ ?_
        refine jj_iload_n h d_M_takeEntity_212 rfl ?_
        refine jj_callV h (cM_contents (b := body) (s := s) (en := eN f x) he0 he16 h8 h9 h4 ⟨by omega, by omega⟩ (by omega) (by omega) hx2 (by rw [SK]; exact hb.sub (by omega) (Int.le_refl _)) BK.1 (by omega)) cv_M_208 (ro_of he (by decide) (by decide)) rfl rfl (by decide) rfl rfl rfl (Nat.le_of_ble_eq_true rfl) d_M_takeEntity_213 (fun v m213 hv => ?_)
        obtain ⟨rfl, mm, c1, c2, rfl⟩ := hv
        rw [SK] at c1
        rw [SK]
        have hC : eC f x = dec_ (eN f x) (slc f body s) := by unfold eC; rw [if_pos q208, hbody, xs]
        rw [← hC] at c1
        rw [← hC]
        refine jj_iload h d_M_takeEntity_216 rfl ?_
        refine jj_iconst h d_M_takeEntity_218 ?_
        refine jj_icmp_ne h 243 d_M_takeEntity_219 (by decide) ⟨by omega, by omega⟩ ⟨by omega, by omega⟩ (fun _ => ?_) (fun q219 => absurd q219 (by omega))
        refine jj_iload h d_M_takeEntity_243 rfl ?_
        refine jj_iconst h d_M_takeEntity_245 ?_
        refine jj_icmp_ne h 306 d_M_takeEntity_246 (by decide) ⟨by omega, by omega⟩ ⟨by omega, by omega⟩ (fun _ => ?_) (fun q246 => absurd q246 (by omega))
        refine jj_vret h he d_M_takeEntity_306 ?_
        have E7 : fE_ mA e mm := (E6.dat (w := 10) (by decide)).ap c1
        have t1 := c1.1
        rw [st_ne (by omega)] at t1
        have hcb : ∀ c ∈ eC f x, 0 ≤ c ∧ c ≤ 255 := by rw [hC]; exact dec_by (slc_by (hb.sub (by omega) (Int.le_refl _)))
        have d10 : mm 185 (16 * e + 10) = mK 182 9 := by rw [c1.row (by decide) (by decide), st_same]
        have dm : ∀ w : Int, w ≠ 10 → mm 185 (16 * e + w) = mK 185 (16 * e + w) := fun w hw => by rw [c1.row (by decide) (by decide), st_ne (by omega)]
        refine done _ (E7.dat (by decide)) ⟨fun w w0 w1 => ?_, ?_, ?_, fun k => ?_⟩ ?_ ⟨by rw [st_ne (by omega)]; have := BK.1; omega, by rw [st_ne (by omega)]; omega, ?_⟩ (by rw [st_ne (by omega), if_pos q208]; omega)
        · by_cases w5 : w = 5
          · subst w5; rw [st_same]; rfl
          · rw [st_ne (by omega), dm w (by omega)]; exact RK w w0 w1 w5
        · show repF _ e (eF f x).1
          rw [hfl]
          refine repF.dat ?_ (by decide)
          exact (QK.dat (w := 10) (by decide)).mov ⟨by rw [st_ne (by omega)]; omega, fun z hz => c1.2.2 _ _ (Or.inr hz) (Or.inl (by decide))⟩ (fun z _ _ => by rw [c1.row (by decide) (by decide)]) (by rw [c1.row (by decide) (by decide)])
        · rw [st_ne (by omega), d10, st_ne (by omega)]
          have x1 := c1.2.1
          rw [st_ne (by omega)] at x1
          refine ⟨BK.1, rfl, by show mK 182 9 + ((eC f x).length : Int) ≤ _; omega, ?_⟩
          rw [st_row (by decide)]
          show slc (mm 187) (mK 182 9) (mK 182 9 + ((eC f x).length : Int)) = eC f x
          rw [← t1]; exact x1
        · exact absurd k (by show (eK f x).1 ≠ 1; omega)
        · rw [hch0 q208]
          refine ⟨by rw [st_ne (by omega), c1.2.2 _ _ (Or.inl (by decide)) (Or.inr (by decide)), st_ne (by omega), GK.1]; simp, fun i y hy => ?_⟩
          rw [st_row (by decide), c1.row (by decide) (by decide), st_row (by decide)]
          exact GK.2 i y (by simpa using hy)
        · rw [st_row (by decide), st_ne (by omega)]
          exact c1.by (by rw [st_ne (by omega)]; exact BK.1) (by rw [st_row (by decide), st_ne (by omega)]; exact BK.2.2) hcb
    have hS1' : mem 182 10 = (S.length : Int) + 1 := by omega
    have zl : ∀ (k : Nat) (q : Int) (m m0 : mt_M) (x6 x7 : Option Value), (16 - q).toNat = k → 0 ≤ q → q ≤ 16 → m0 = st_ (st_ mem 182 10 S.length) 182 5 (e + 1) → (∀ (r : Nat) (z : Int), m r z = if r = 185 ∧ 16 * e ≤ z ∧ z < 16 * e + q then 0 else m0 r z) → JJ G X 0 0 m 79 [some (vr G 182), some (vi e), some (vi b), some (vi s), some (vi par), some (vi q), x6, x7] [] := by
      intro k
      induction k with
      | zero =>
        intro q m m0 x6 x7 k1 k2 k3 k4 k5
        have hq : q = 16 := by omega
        subst hq
        have hr1 : ∀ (r : Nat) (z : Int), r ≠ 185 → m r z = m0 r z := fun r z hr => by rw [k5, if_neg (fun q => hr q.1)]
        have hr3 : m 188 (4 * (S.length : Int) + 2) = dep := by rw [hr1 _ _ (by decide), k4, st_ne (by omega), st_ne (by omega)]; exact r3
        have hp9 : m 182 10 = S.length := by rw [hr1 _ _ (by decide), k4, st_ne (by decide), st_same]
        have hd9 : ∀ z, m 185 z = if 16 * e ≤ z ∧ z < 16 * e + 16 then 0 else mem 185 z := fun z => by
          rw [k5]
          by_cases g : 16 * e ≤ z ∧ z < 16 * e + 16
          · rw [if_pos ⟨rfl, g⟩, if_pos g]
          · rw [if_neg (fun q => g q.2), if_neg g, k4, st_ne (by omega), st_ne (by omega)]
        have hg9 : ∀ (r : Nat) (z : Int), r ≠ 185 → (r ≠ 182 ∨ (z ≠ 10 ∧ z ≠ 5)) → m r z = mem r z := fun r z a1 a2 => by rw [hr1 r z a1, k4, st_ne (by omega), st_ne (by omega)]
        have he9 : m 182 5 = e + 1 := by rw [hr1 _ _ (by decide), k4, st_same]
        refine jj_iload h d_M_takeEntity_79 rfl ?_
        refine jj_bipush h d_M_takeEntity_81 (by decide) ?_
        refine jj_icmp_ge h 100 d_M_takeEntity_83 (by decide) ⟨by omega, by omega⟩ ⟨by omega, by omega⟩ (fun _ => ?_) (fun q83 => absurd (by omega) q83)
        refine jj_aload_n h d_M_takeEntity_100 rfl ⟨_, rfl⟩ ?_
        refine jj_iload_n h d_M_takeEntity_101 rfl ?_
        refine jj_iconst h d_M_takeEntity_102 ?_
        refine jj_aload_n h d_M_takeEntity_103 rfl ⟨_, rfl⟩ ?_
        refine jj_g_M_range h  fl_M_25 d_M_takeEntity_104 ?_
        try simp only [st_at, Nat.reduceEqDiff, Int.reduceEq, and_self, true_and, and_true, false_and, and_false, reduceIte, hp9, hr3]
        refine jj_iconst h d_M_takeEntity_107 ?_
        refine jj_aload_n h d_M_takeEntity_108 rfl ⟨_, rfl⟩ ?_
        refine jj_g_M_pile h  fl_M_175 d_M_takeEntity_109 ?_
        try simp only [st_at, Nat.reduceEqDiff, Int.reduceEq, and_self, true_and, and_true, false_and, and_false, reduceIte, hp9, hr3]
        refine jj_imul h d_M_takeEntity_112 ?_
        refine jj_iconst h d_M_takeEntity_113 ?_
        refine jj_iadd h d_M_takeEntity_114 ?_
        refine jj_iaload (N := 1400) h (by decide) rfl (by decide) (by omega) (by omega) d_M_takeEntity_115 ?_
        try simp only [st_at, Nat.reduceEqDiff, Int.reduceEq, and_self, true_and, and_true, false_and, and_false, reduceIte, hp9, hr3]
        refine jj_callV h (cM_set (by omega) (by omega)) cv_M_70 (ro_of he (by decide) (by decide)) rfl rfl (by decide) rfl rfl rfl (Nat.le_of_ble_eq_true rfl) d_M_takeEntity_116 (fun v m116 hv => ?_)
        obtain ⟨rfl, rfl⟩ := hv
        refine jj_aload_n h d_M_takeEntity_119 rfl ⟨_, rfl⟩ ?_
        refine jj_iload_n h d_M_takeEntity_120 rfl ?_
        refine jj_iconst h d_M_takeEntity_121 ?_
        refine jj_iload h d_M_takeEntity_122 rfl ?_
        refine jj_callV h (cM_set (by omega) (by omega)) cv_M_70 (ro_of he (by decide) (by decide)) rfl rfl (by decide) rfl rfl rfl (Nat.le_of_ble_eq_true rfl) d_M_takeEntity_124 (fun v m124 hv => ?_)
        obtain ⟨rfl, rfl⟩ := hv
        refine jj_iload h d_M_takeEntity_127 rfl ?_
        refine jj_if_lt h 150 d_M_takeEntity_129 (by decide) ⟨by omega, by omega⟩ (fun q129 => ?_) (fun q129 => ?_)
        · refine jj_aload_n h d_M_takeEntity_150 rfl ⟨_, rfl⟩ ?_
          refine jj_iload_n h d_M_takeEntity_151 rfl ?_
          refine jj_bipush h d_M_takeEntity_152 (by decide) ?_
          refine jj_iload_n h d_M_takeEntity_154 rfl ?_
          refine jj_callV h (cM_set (by omega) (by omega)) cv_M_70 (ro_of he (by decide) (by decide)) rfl rfl (by decide) rfl rfl rfl (Nat.le_of_ble_eq_true rfl) d_M_takeEntity_155 (fun v m155 hv => ?_)
          obtain ⟨rfl, rfl⟩ := hv
          refine jj_aload_n h d_M_takeEntity_158 rfl ⟨_, rfl⟩ ?_
          refine jj_iload_n h d_M_takeEntity_159 rfl ?_
          refine jj_bipush h d_M_takeEntity_160 (by decide) ?_
          refine jj_iload_n h d_M_takeEntity_162 rfl ?_
          refine jj_callV h (cM_set (by omega) (by omega)) cv_M_70 (ro_of he (by decide) (by decide)) rfl rfl (by decide) rfl rfl rfl (Nat.le_of_ble_eq_true rfl) d_M_takeEntity_163 (fun v m163 hv => ?_)
          obtain ⟨rfl, rfl⟩ := hv
          refine segB _ (by simp only [st_at, Nat.reduceEqDiff, false_and, reduceIte]; exact hp9) (by simp only [st_at, Nat.reduceEqDiff, false_and, reduceIte]; exact he9) (fun z => ?_) (fun r z a1 a2 => by rw [st_ne (Or.inl a1), st_ne (Or.inl a1), st_ne (Or.inl a1), st_ne (Or.inl a1)]; exact hg9 r z a1 a2) _ _ _
          simp only [st_at, true_and, hd9]
          rw [if_neg (c := 0 ≤ par ∧ z = 16 * par + 6) (by omega)]
        · refine jj_aload_n h d_M_takeEntity_132 rfl ⟨_, rfl⟩ ?_
          refine jj_iload h d_M_takeEntity_133 rfl ?_
          refine jj_bipush h d_M_takeEntity_135 (by decide) ?_
          refine jj_aload_n h d_M_takeEntity_137 rfl ⟨_, rfl⟩ ?_
          refine jj_iload h d_M_takeEntity_138 rfl ?_
          refine jj_bipush h d_M_takeEntity_140 (by decide) ?_
          refine jj_callV h (cM_of (by omega) (by omega)) cv_M_59 (ro_of he (by decide) (by decide)) rfl rfl (by decide) rfl rfl rfl (Nat.le_of_ble_eq_true rfl) d_M_takeEntity_142 (fun v m142 hv => ?_)
          obtain ⟨rfl, rfl⟩ := hv
          rw [st_ne (by omega), st_ne (by omega), hd9, if_neg (by omega)]
          refine jj_iconst h d_M_takeEntity_145 ?_
          refine jj_iadd h d_M_takeEntity_146 ?_
          refine jj_callV h (cM_set (by omega) (by omega)) cv_M_70 (ro_of he (by decide) (by decide)) rfl rfl (by decide) rfl rfl rfl (Nat.le_of_ble_eq_true rfl) d_M_takeEntity_147 (fun v m147 hv => ?_)
          obtain ⟨rfl, rfl⟩ := hv
          refine jj_aload_n h d_M_takeEntity_150 rfl ⟨_, rfl⟩ ?_
          refine jj_iload_n h d_M_takeEntity_151 rfl ?_
          refine jj_bipush h d_M_takeEntity_152 (by decide) ?_
          refine jj_iload_n h d_M_takeEntity_154 rfl ?_
          refine jj_callV h (cM_set (by omega) (by omega)) cv_M_70 (ro_of he (by decide) (by decide)) rfl rfl (by decide) rfl rfl rfl (Nat.le_of_ble_eq_true rfl) d_M_takeEntity_155 (fun v m155 hv => ?_)
          obtain ⟨rfl, rfl⟩ := hv
          refine jj_aload_n h d_M_takeEntity_158 rfl ⟨_, rfl⟩ ?_
          refine jj_iload_n h d_M_takeEntity_159 rfl ?_
          refine jj_bipush h d_M_takeEntity_160 (by decide) ?_
          refine jj_iload_n h d_M_takeEntity_162 rfl ?_
          refine jj_callV h (cM_set (by omega) (by omega)) cv_M_70 (ro_of he (by decide) (by decide)) rfl rfl (by decide) rfl rfl rfl (Nat.le_of_ble_eq_true rfl) d_M_takeEntity_163 (fun v m163 hv => ?_)
          obtain ⟨rfl, rfl⟩ := hv
          refine segB _ (by simp only [st_at, Nat.reduceEqDiff, false_and, reduceIte]; exact hp9) (by simp only [st_at, Nat.reduceEqDiff, false_and, reduceIte]; exact he9) (fun z => ?_) (fun r z a1 a2 => by rw [st_ne (Or.inl a1), st_ne (Or.inl a1), st_ne (Or.inl a1), st_ne (Or.inl a1), st_ne (Or.inl a1)]; exact hg9 r z a1 a2) _ _ _
          simp only [st_at, true_and, hd9]
          by_cases hz6 : z = 16 * par + 6
          · subst hz6
            rw [if_neg (by omega), if_neg (by omega), if_pos rfl, if_neg (by omega), if_neg (by omega), if_pos (by omega)]
          · rw [if_neg (c := z = 16 * par + 6) hz6, if_neg (c := 0 ≤ par ∧ z = 16 * par + 6) (by omega)]
      | succ k ih =>
        intro q m m0 x6 x7 k1 k2 k3 k4 k5
        refine jj_iload h d_M_takeEntity_79 rfl ?_
        refine jj_bipush h d_M_takeEntity_81 (by decide) ?_
        refine jj_icmp_ge h 100 d_M_takeEntity_83 (by decide) ⟨by omega, by omega⟩ ⟨by omega, by omega⟩ (fun q83 => absurd q83 (by omega)) (fun _ => ?_)
        refine jj_aload_n h d_M_takeEntity_86 rfl ⟨_, rfl⟩ ?_
        refine jj_iload_n h d_M_takeEntity_87 rfl ?_
        refine jj_iload h d_M_takeEntity_88 rfl ?_
        refine jj_iconst h d_M_takeEntity_90 ?_
        refine jj_callV h (cM_set (by omega) (by omega)) cv_M_70 (ro_of he (by decide) (by decide)) rfl rfl (by decide) rfl rfl rfl (Nat.le_of_ble_eq_true rfl) d_M_takeEntity_91 (fun v m91 hv => ?_)
        obtain ⟨rfl, rfl⟩ := hv
        refine jj_iinc h d_M_takeEntity_94 rfl rfl ?_
        refine jj_goto h 79 d_M_takeEntity_97 (by decide) ?_
        refine ih (q + 1) _ m0 x6 x7 (by omega) (by omega) (by omega) k4 (fun r z => ?_)
        rw [st_at, k5]
        by_cases g : r = 185 ∧ z = 16 * e + q
        · rw [if_pos g, if_pos ⟨g.1, by omega, by omega⟩]
        · rw [if_neg g]
          by_cases g2 : r = 185 ∧ 16 * e ≤ z ∧ z < 16 * e + q
          · rw [if_pos g2, if_pos ⟨g2.1, by omega, by omega⟩]
          · rw [if_neg g2, if_neg (fun z9 => g2 ⟨z9.1, z9.2.1, by have := fun y => g ⟨z9.1, y⟩; omega⟩)]
    refine jj_aload_n h d_M_takeEntity_0 rfl ⟨_, rfl⟩ ?_
    refine jj_dup h d_M_takeEntity_1 rfl ?_
    refine jj_g_M_pile h  fl_M_175 d_M_takeEntity_2 ?_
    try simp only [st_at, Nat.reduceEqDiff, Int.reduceEq, and_self, true_and, and_true, false_and, and_false, reduceIte, hS1', hLn, hee, r1, r2, r4]
    refine jj_iconst h d_M_takeEntity_5 ?_
    refine jj_isub h d_M_takeEntity_6 ?_
    rw [show (S.length : Int) + 1 - 1 = S.length by omega]
    refine jj_p_M_pile h  fl_M_175 d_M_takeEntity_7 ?_
    refine jj_aload_n h d_M_takeEntity_10 rfl ⟨_, rfl⟩ ?_
    refine jj_g_M_entities h  fl_M_196 d_M_takeEntity_11 ?_
    try simp only [st_at, Nat.reduceEqDiff, Int.reduceEq, and_self, true_and, and_true, false_and, and_false, reduceIte, hS1', hLn, hee, r1, r2, r4]
    refine jj_bipush h d_M_takeEntity_14 (by decide) ?_
    refine jj_icmp_ne h 20 d_M_takeEntity_16 (by decide) ⟨by omega, by omega⟩ ⟨by omega, by omega⟩ (fun _ => ?_) (fun q16 => absurd q16 (by omega))
    refine jj_aload_n h d_M_takeEntity_20 rfl ⟨_, rfl⟩ ?_
    refine jj_g_M_entities h  fl_M_196 d_M_takeEntity_21 ?_
    try simp only [st_at, Nat.reduceEqDiff, Int.reduceEq, and_self, true_and, and_true, false_and, and_false, reduceIte, hS1', hLn, hee, r1, r2, r4]
    refine jj_istore_n h d_M_takeEntity_24 (Nat.le_of_ble_eq_true rfl) rfl ?_
    refine jj_aload_n h d_M_takeEntity_25 rfl ⟨_, rfl⟩ ?_
    refine jj_dup h d_M_takeEntity_26 rfl ?_
    refine jj_g_M_entities h  fl_M_196 d_M_takeEntity_27 ?_
    try simp only [st_at, Nat.reduceEqDiff, Int.reduceEq, and_self, true_and, and_true, false_and, and_false, reduceIte, hS1', hLn, hee, r1, r2, r4]
    refine jj_iconst h d_M_takeEntity_30 ?_
    refine jj_iadd h d_M_takeEntity_31 ?_
    refine jj_p_M_entities h  fl_M_196 d_M_takeEntity_32 ?_
    refine jj_aload_n h d_M_takeEntity_35 rfl ⟨_, rfl⟩ ?_
    refine jj_g_M_range h  fl_M_25 d_M_takeEntity_36 ?_
    try simp only [st_at, Nat.reduceEqDiff, Int.reduceEq, and_self, true_and, and_true, false_and, and_false, reduceIte, hS1', hLn, hee, r1, r2, r4]
    refine jj_iconst h d_M_takeEntity_39 ?_
    refine jj_aload_n h d_M_takeEntity_40 rfl ⟨_, rfl⟩ ?_
    refine jj_g_M_pile h  fl_M_175 d_M_takeEntity_41 ?_
    try simp only [st_at, Nat.reduceEqDiff, Int.reduceEq, and_self, true_and, and_true, false_and, and_false, reduceIte, hS1', hLn, hee, r1, r2, r4]
    refine jj_imul h d_M_takeEntity_44 ?_
    refine jj_iaload (N := 1400) h (by decide) rfl (by decide) (by omega) (by omega) d_M_takeEntity_45 ?_
    try simp only [st_at, Nat.reduceEqDiff, Int.reduceEq, and_self, true_and, and_true, false_and, and_false, reduceIte, hS1', hLn, hee, r1, r2, r4]
    refine jj_istore_n h d_M_takeEntity_46 (Nat.le_of_ble_eq_true rfl) rfl ?_
    refine jj_aload_n h d_M_takeEntity_47 rfl ⟨_, rfl⟩ ?_
    refine jj_g_M_range h  fl_M_25 d_M_takeEntity_48 ?_
    try simp only [st_at, Nat.reduceEqDiff, Int.reduceEq, and_self, true_and, and_true, false_and, and_false, reduceIte, hS1', hLn, hee, r1, r2, r4]
    refine jj_iconst h d_M_takeEntity_51 ?_
    refine jj_aload_n h d_M_takeEntity_52 rfl ⟨_, rfl⟩ ?_
    refine jj_g_M_pile h  fl_M_175 d_M_takeEntity_53 ?_
    try simp only [st_at, Nat.reduceEqDiff, Int.reduceEq, and_self, true_and, and_true, false_and, and_false, reduceIte, hS1', hLn, hee, r1, r2, r4]
    refine jj_imul h d_M_takeEntity_56 ?_
    refine jj_iconst h d_M_takeEntity_57 ?_
    refine jj_iadd h d_M_takeEntity_58 ?_
    refine jj_iaload (N := 1400) h (by decide) rfl (by decide) (by omega) (by omega) d_M_takeEntity_59 ?_
    try simp only [st_at, Nat.reduceEqDiff, Int.reduceEq, and_self, true_and, and_true, false_and, and_false, reduceIte, hS1', hLn, hee, r1, r2, r4]
    refine jj_istore_n h d_M_takeEntity_60 (Nat.le_of_ble_eq_true rfl) rfl ?_
    refine jj_aload_n h d_M_takeEntity_61 rfl ⟨_, rfl⟩ ?_
    refine jj_g_M_range h  fl_M_25 d_M_takeEntity_62 ?_
    try simp only [st_at, Nat.reduceEqDiff, Int.reduceEq, and_self, true_and, and_true, false_and, and_false, reduceIte, hS1', hLn, hee, r1, r2, r4]
    refine jj_iconst h d_M_takeEntity_65 ?_
    refine jj_aload_n h d_M_takeEntity_66 rfl ⟨_, rfl⟩ ?_
    refine jj_g_M_pile h  fl_M_175 d_M_takeEntity_67 ?_
    try simp only [st_at, Nat.reduceEqDiff, Int.reduceEq, and_self, true_and, and_true, false_and, and_false, reduceIte, hS1', hLn, hee, r1, r2, r4]
    refine jj_imul h d_M_takeEntity_70 ?_
    refine jj_iconst h d_M_takeEntity_71 ?_
    refine jj_iadd h d_M_takeEntity_72 ?_
    refine jj_iaload (N := 1400) h (by decide) rfl (by decide) (by omega) (by omega) d_M_takeEntity_73 ?_
    try simp only [st_at, Nat.reduceEqDiff, Int.reduceEq, and_self, true_and, and_true, false_and, and_false, reduceIte, hS1', hLn, hee, r1, r2, r4]
    refine jj_istore h d_M_takeEntity_74 (Nat.le_of_ble_eq_true rfl) rfl ?_
    refine jj_iconst h d_M_takeEntity_76 ?_
    refine jj_istore h d_M_takeEntity_77 (Nat.le_of_ble_eq_true rfl) rfl ?_
    exact zl _ 0 _ _ none none rfl (by omega) (by omega) rfl (fun r z => by rw [if_neg (by omega)])
