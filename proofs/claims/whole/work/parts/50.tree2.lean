/-! The tree: an entity out of its range, its parts' ranges, and how the reference holds it. -/
abbrev mt_R : Type := Int × Int × Int × Int
def eF (f : Int → Int) (x : mt_R) : List (List Int × List Int) × Int := flds f x.1 x.2.1
def eN (f : Int → Int) (x : mt_R) : Int := encO_ (fnd w_cte (eF f x).1)
def eK (f : Int → Int) (x : mt_R) : Int × List Int := kndO_ (fnd w_ctype (eF f x).1) x.2.2.1
def eC (f : Int → Int) (x : mt_R) : List Int := if (eK f x).1 = 0 then dec_ (eN f x) (slc f (eF f x).2 x.2.1) else []
def eR (f : Int → Int) (x : mt_R) : Int → Int := fun w => if w = 0 then (eK f x).1 else if w = 1 then x.2.2.1 else if w = 2 then x.2.2.2 else if w = 3 then (eF f x).1.length else if w = 4 then eN f x else if w = 5 then (eC f x).length else if w = 6 then 0 else if w = 7 then x.1 else if w = 8 then (eF f x).2 else x.2.1
def mkE (f : Int → Int) (x : mt_R) : mt_E := (eR f x, (eF f x).1, eC f x, (eK f x).2)
/-- the ranges of its parts; i its own number -/
def chE (f : Int → Int) (x : mt_R) (i : Int) : List mt_R := if (eK f x).1 = 2 then [((eF f x).2, x.2.1, x.2.2.1 + 1, i)] else if (eK f x).1 = 1 then (parts_ f (eF f x).2 x.2.1 (eK f x).2).map (fun q => (q.1, q.2, x.2.2.1 + 1, i)) else []
/-- one part more -/
def bmp : List mt_E → Nat → List mt_E
  | [], _ => []
  | E :: t, 0 => (fun w => if w = 6 then E.1 6 + 1 else E.1 w, E.2) :: t
  | E :: t, n + 1 => E :: bmp t n
def bmpI (L : List mt_E) (p : Int) : List mt_E := if p < 0 then L else bmp L p.toNat
/-- taking a range off the pile -/
def tk1 (f : Int → Int) (L : List mt_E) (x : mt_R) : List mt_E × List mt_R := if L.length = 16 then (L, []) else (bmpI L x.2.2.2 ++ [mkE f x], chE f x L.length)
def rdS (f : Int → Int) : Nat → List mt_R → List mt_E → List mt_E
  | 0, _, L => L
  | _ + 1, [], L => L
  | n + 1, x :: xs, L => rdS f n ((tk1 f L x).2 ++ xs) (tk1 f L x).1
theorem bmp_len : ∀ (L : List mt_E) (n : Nat), (bmp L n).length = L.length
  | [], _ => rfl
  | _ :: _, 0 => rfl
  | _ :: t, n + 1 => by simp only [bmp, List.length_cons]; rw [bmp_len t n]
theorem bmpI_len (L : List mt_E) (p : Int) : (bmpI L p).length = L.length := by unfold bmpI; split; rfl; exact bmp_len _ _
theorem bmp_get : ∀ (L : List mt_E) (n i : Nat) (E : mt_E), (bmp L n)[i]? = some E → ∃ D, L[i]? = some D ∧ E.2 = D.2 ∧ ∀ w, E.1 w = if i = n ∧ w = 6 then D.1 6 + 1 else D.1 w
  | [], n, i, E, h => by simp [bmp] at h
  | D :: t, 0, 0, E, h => by
    simp only [bmp, List.getElem?_cons_zero, Option.some.injEq] at h
    subst h
    exact ⟨D, rfl, rfl, fun w => by simp⟩
  | D :: t, 0, i + 1, E, h => ⟨E, by simpa [bmp] using h, rfl, fun w => by simp⟩
  | D :: t, n + 1, 0, E, h => by
    simp only [bmp, List.getElem?_cons_zero, Option.some.injEq] at h
    subst h
    exact ⟨D, rfl, rfl, fun w => by simp⟩
  | D :: t, n + 1, i + 1, E, h => by
    simp only [bmp, List.getElem?_cons_succ] at h
    obtain ⟨D', h1, h2, h3⟩ := bmp_get t n i E h
    exact ⟨D', by simpa using h1, h2, fun w => by rw [h3 w]; simp⟩
/-- the reference holds E as entity i -/
def rE (mem : mt_M) (i : Int) (E : mt_E) : Prop := (∀ w : Int, 0 ≤ w → w ≤ 9 → mem 185 (16 * i + w) = E.1 w) ∧ repF mem i E.2.1 ∧ (0 ≤ mem 185 (16 * i + 10) ∧ E.1 5 = E.2.2.1.length ∧ mem 185 (16 * i + 10) + E.1 5 ≤ mem 182 9 ∧ slc (mem 187) (mem 185 (16 * i + 10)) (mem 185 (16 * i + 10) + E.1 5) = E.2.2.1) ∧ (E.1 0 = 1 → 0 ≤ mem 185 (16 * i + 11) ∧ mem 185 (16 * i + 12) = E.2.2.2.length ∧ mem 185 (16 * i + 11) + mem 185 (16 * i + 12) ≤ mem 182 9 ∧ slc (mem 187) (mem 185 (16 * i + 11)) (mem 185 (16 * i + 11) + mem 185 (16 * i + 12)) = E.2.2.2)
def RepE (mem : mt_M) (L : List mt_E) : Prop := ∀ (i : Nat) (E : mt_E), L[i]? = some E → rE mem i E
theorem repF.mov {m m' : mt_M} {e : Int} {L : List (List Int × List Int)} (h : repF m e L) (hu : ups m m') (hF : ∀ z : Int, 32 * e ≤ z → z < 32 * e + 32 → m' 186 z = m 186 z) (hd : m' 185 (16 * e + 3) = m 185 (16 * e + 3)) : repF m' e L := by
  refine ⟨by rw [hd]; exact h.1, h.2.1, fun f q hq => ?_⟩
  have hf := (List.getElem?_eq_some_iff.mp hq).1
  have h8 := h.2.1
  obtain ⟨a, b⟩ := h.2.2 f q hq
  exact ⟨a.mov hu (hF _ (by omega) (by omega)) (hF _ (by omega) (by omega)), b.mov hu (hF _ (by omega) (by omega)) (hF _ (by omega) (by omega))⟩
theorem rE.mov {m m' : mt_M} {i : Int} {E : mt_E} (h : rE m i E) (hu : ups m m') (hF : ∀ z : Int, 32 * i ≤ z → z < 32 * i + 32 → m' 186 z = m 186 z) (hd : ∀ z : Int, 16 * i ≤ z → z < 16 * i + 16 → m' 185 z = m 185 z) : rE m' i E := by
  obtain ⟨a, b, c, d⟩ := h
  have hu1 := hu.1
  refine ⟨fun w w0 w1 => by rw [hd _ (by omega) (by omega)]; exact a w w0 w1, b.mov hu hF (hd _ (by omega) (by omega)), ?_, fun k => ?_⟩
  · rw [hd _ (by omega) (by omega)]
    refine ⟨c.1, c.2.1, by omega, ?_⟩
    rw [← c.2.2.2]
    exact slc_ext (fun z _ h2 => hu.2 z (by omega))
  · obtain ⟨d1, d2, d3, d4⟩ := d k
    rw [hd (16 * i + 11) (by omega) (by omega), hd (16 * i + 12) (by omega) (by omega)]
    refine ⟨d1, d2, by omega, ?_⟩
    rw [← d4]
    exact slc_ext (fun z _ h2 => hu.2 z (by omega))
theorem RepE.mov {m m' : mt_M} {L : List mt_E} (h : RepE m L) (hu : ups m m') (hF : ∀ z : Int, 0 ≤ z → z < 32 * L.length → m' 186 z = m 186 z) (hd : ∀ z : Int, 0 ≤ z → z < 16 * L.length → m' 185 z = m 185 z) : RepE m' L := fun i E hE => by
  have hi := (List.getElem?_eq_some_iff.mp hE).1
  exact (h i E hE).mov hu (fun z a b => hF z (by omega) (by omega)) (fun z a b => hd z (by omega) (by omega))
theorem RepE.bump {m m' : mt_M} {L : List mt_E} {p : Int} (h : RepE m L) (hp : -1 ≤ p) (hpl : p < L.length) (hu : ups m m') (hF : ∀ z : Int, 0 ≤ z → z < 32 * L.length → m' 186 z = m 186 z) (hd : ∀ z : Int, 0 ≤ z → z < 16 * L.length → m' 185 z = if 0 ≤ p ∧ z = 16 * p + 6 then m 185 z + 1 else m 185 z) : RepE m' (bmpI L p) := by
  unfold bmpI
  split
  · rename_i hn
    exact h.mov hu hF (fun z a b => by rw [hd z a b, if_neg (by omega)])
  · rename_i hn
    intro i E hE
    obtain ⟨D, h1, h2, h3⟩ := bmp_get L p.toNat i E hE
    have hi := (List.getElem?_eq_some_iff.mp h1).1
    have hD := h i D h1
    have hd' : ∀ z : Int, 16 * (i : Int) ≤ z → z < 16 * (i : Int) + 16 → z ≠ 16 * (i : Int) + 6 → m' 185 z = m 185 z := fun z a b c => by rw [hd z (by omega) (by omega), if_neg (by omega)]
    obtain ⟨a, b, c, d⟩ := hD
    have hu1 := hu.1
    have e5 : E.1 5 = D.1 5 := by rw [h3, if_neg (by omega)]
    have e0 : E.1 0 = D.1 0 := by rw [h3, if_neg (by omega)]
    refine ⟨fun w w0 w1 => ?_, ?_, ?_, fun k => ?_⟩
    · rw [h3 w]
      by_cases hw : w = 6
      · subst hw
        rw [hd _ (by omega) (by omega)]
        by_cases hip : i = p.toNat
        · rw [if_pos (by omega), if_pos ⟨hip, rfl⟩, a 6 (by omega) (by omega)]
        · rw [if_neg (by omega), if_neg (fun z => hip z.1), a 6 (by omega) (by omega)]
      · rw [if_neg (fun z => hw z.2), hd' _ (by omega) (by omega) (by omega)]; exact a w w0 w1
    · rw [h2]; exact b.mov hu (fun z a b => hF z (by omega) (by omega)) (hd' _ (by omega) (by omega) (by omega))
    · rw [hd' _ (by omega) (by omega) (by omega), e5, h2]
      refine ⟨c.1, c.2.1, by omega, ?_⟩
      rw [← c.2.2.2]
      exact slc_ext (fun z _ h2 => hu.2 z (by omega))
    · rw [e0] at k
      obtain ⟨d1, d2, d3, d4⟩ := d k
      rw [hd' (16 * (i : Int) + 11) (by omega) (by omega) (by omega), hd' (16 * (i : Int) + 12) (by omega) (by omega) (by omega), h2]
      refine ⟨d1, d2, by omega, ?_⟩
      rw [← d4]
      exact slc_ext (fun z _ h2 => hu.2 z (by omega))
theorem RepE.snoc {m : mt_M} {L : List mt_E} {E : mt_E} (h : RepE m L) (hE : rE m L.length E) : RepE m (L ++ [E]) := fun i D hD => by
  by_cases hi : i < L.length
  · rw [List.getElem?_append_left hi] at hD; exact h i D hD
  · have hi2 : i = L.length := by
      have := (List.getElem?_eq_some_iff.mp hD).1
      simp only [List.length_append, List.length_cons, List.length_nil] at this
      omega
    subst hi2
    simp at hD
    subst hD
    exact hE
/-- the pile, the lowest first -/
def rg_ (mem : mt_M) (S : List mt_R) : Prop := mem 182 10 = S.length ∧ ∀ (i : Nat) (x : mt_R), S[i]? = some x → mem 188 (4 * (i : Int)) = x.1 ∧ mem 188 (4 * (i : Int) + 1) = x.2.1 ∧ mem 188 (4 * (i : Int) + 2) = x.2.2.1 ∧ mem 188 (4 * (i : Int) + 3) = x.2.2.2
theorem cM_lay {G : mt_G} {l : Launch} {mem : mt_M} {S : List mt_R} {x : mt_R} (hr : rg_ mem S) (hl : S.length < 350) : CT G l y_M_lay c_M_lay 5 none 1 [vr G 182, vi x.1, vi x.2.1, vi x.2.2.1, vi x.2.2.2] mem (fun v m' => v = none ∧ rg_ m' (S ++ [x]) ∧ ∀ (r : Nat) (z : Int), r ≠ 188 → (r ≠ 182 ∨ z ≠ 10) → m' r z = mem r z) := by
  refine CT.intro (by decide) rfl (Nat.le_of_ble_eq_true rfl) (fun X h he => ?_)
  obtain ⟨h1, h2⟩ := hr
  refine jj_aload_n h d_M_lay_0 rfl ⟨_, rfl⟩ ?_
  refine jj_g_M_range h  fl_M_25 d_M_lay_1 ?_
  try simp only [st_at, Nat.reduceEqDiff, Int.reduceEq, and_self, true_and, and_true, false_and, and_false, reduceIte, h1]
  refine jj_iconst h d_M_lay_4 ?_
  refine jj_aload_n h d_M_lay_5 rfl ⟨_, rfl⟩ ?_
  refine jj_g_M_pile h  fl_M_175 d_M_lay_6 ?_
  try simp only [st_at, Nat.reduceEqDiff, Int.reduceEq, and_self, true_and, and_true, false_and, and_false, reduceIte, h1]
  refine jj_imul h d_M_lay_9 ?_
  refine jj_iload_n h d_M_lay_10 rfl ?_
  refine jj_iastore (N := 1400) h (by decide) (fun _ => rfl) (by decide) (by omega) (by omega) d_M_lay_11 ?_
  refine jj_aload_n h d_M_lay_12 rfl ⟨_, rfl⟩ ?_
  refine jj_g_M_range h  fl_M_25 d_M_lay_13 ?_
  try simp only [st_at, Nat.reduceEqDiff, Int.reduceEq, and_self, true_and, and_true, false_and, and_false, reduceIte, h1]
  refine jj_iconst h d_M_lay_16 ?_
  refine jj_aload_n h d_M_lay_17 rfl ⟨_, rfl⟩ ?_
  refine jj_g_M_pile h  fl_M_175 d_M_lay_18 ?_
  try simp only [st_at, Nat.reduceEqDiff, Int.reduceEq, and_self, true_and, and_true, false_and, and_false, reduceIte, h1]
  refine jj_imul h d_M_lay_21 ?_
  refine jj_iconst h d_M_lay_22 ?_
  refine jj_iadd h d_M_lay_23 ?_
  refine jj_iload_n h d_M_lay_24 rfl ?_
  refine jj_iastore (N := 1400) h (by decide) (fun _ => rfl) (by decide) (by omega) (by omega) d_M_lay_25 ?_
  refine jj_aload_n h d_M_lay_26 rfl ⟨_, rfl⟩ ?_
  refine jj_g_M_range h  fl_M_25 d_M_lay_27 ?_
  try simp only [st_at, Nat.reduceEqDiff, Int.reduceEq, and_self, true_and, and_true, false_and, and_false, reduceIte, h1]
  refine jj_iconst h d_M_lay_30 ?_
  refine jj_aload_n h d_M_lay_31 rfl ⟨_, rfl⟩ ?_
  refine jj_g_M_pile h  fl_M_175 d_M_lay_32 ?_
  try simp only [st_at, Nat.reduceEqDiff, Int.reduceEq, and_self, true_and, and_true, false_and, and_false, reduceIte, h1]
  refine jj_imul h d_M_lay_35 ?_
  refine jj_iconst h d_M_lay_36 ?_
  refine jj_iadd h d_M_lay_37 ?_
  refine jj_iload_n h d_M_lay_38 rfl ?_
  refine jj_iastore (N := 1400) h (by decide) (fun _ => rfl) (by decide) (by omega) (by omega) d_M_lay_39 ?_
  refine jj_aload_n h d_M_lay_40 rfl ⟨_, rfl⟩ ?_
  refine jj_g_M_range h  fl_M_25 d_M_lay_41 ?_
  try simp only [st_at, Nat.reduceEqDiff, Int.reduceEq, and_self, true_and, and_true, false_and, and_false, reduceIte, h1]
  refine jj_iconst h d_M_lay_44 ?_
  refine jj_aload_n h d_M_lay_45 rfl ⟨_, rfl⟩ ?_
  refine jj_g_M_pile h  fl_M_175 d_M_lay_46 ?_
  try simp only [st_at, Nat.reduceEqDiff, Int.reduceEq, and_self, true_and, and_true, false_and, and_false, reduceIte, h1]
  refine jj_imul h d_M_lay_49 ?_
  refine jj_iconst h d_M_lay_50 ?_
  refine jj_iadd h d_M_lay_51 ?_
  refine jj_iload h d_M_lay_52 rfl ?_
  refine jj_iastore (N := 1400) h (by decide) (fun _ => rfl) (by decide) (by omega) (by omega) d_M_lay_54 ?_
  refine jj_aload_n h d_M_lay_55 rfl ⟨_, rfl⟩ ?_
  refine jj_dup h d_M_lay_56 rfl ?_
  refine jj_g_M_pile h  fl_M_175 d_M_lay_57 ?_
  try simp only [st_at, Nat.reduceEqDiff, Int.reduceEq, and_self, true_and, and_true, false_and, and_false, reduceIte, h1]
  refine jj_iconst h d_M_lay_60 ?_
  refine jj_iadd h d_M_lay_61 ?_
  refine jj_p_M_pile h  fl_M_175 d_M_lay_62 ?_
  refine jj_vret h he d_M_lay_65 ?_
  refine ⟨rfl, ⟨?_, fun i y hy => ?_⟩, fun r z r1 r2 => ?_⟩
  · rw [st_same, List.length_append]; simp
  · simp only [st_at, Nat.reduceEqDiff, false_and, reduceIte, true_and]
    by_cases hi : i < S.length
    · rw [List.getElem?_append_left hi] at hy
      obtain ⟨a1, a2, a3, a4⟩ := h2 i y hy
      refine ⟨?_, ?_, ?_, ?_⟩ <;> (rw [if_neg (by omega), if_neg (by omega), if_neg (by omega), if_neg (by omega)]; assumption)
    · have hi2 : i = S.length := by
        have := (List.getElem?_eq_some_iff.mp hy).1
        simp only [List.length_append, List.length_cons, List.length_nil] at this
        omega
      subst hi2
      simp at hy
      subst hy
      refine ⟨?_, ?_, ?_, ?_⟩
      · rw [if_neg (by omega), if_neg (by omega), if_neg (by omega), if_pos rfl]
      · rw [if_neg (by omega), if_neg (by omega), if_pos rfl]
      · rw [if_neg (by omega), if_pos rfl]
      · rw [if_pos rfl]
  · rw [st_ne r2, st_ne (Or.inl r1), st_ne (Or.inl r1), st_ne (Or.inl r1), st_ne (Or.inl r1)]
