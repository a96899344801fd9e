/-! The reference: the fields of an entity. -/
def fn1 (mem : mt_M) (e f : Int) (q : List Int) : Prop := 0 ≤ mem 186 (4 * (8 * e + f)) ∧ 0 ≤ mem 186 (4 * (8 * e + f) + 1) ∧ mem 186 (4 * (8 * e + f)) + mem 186 (4 * (8 * e + f) + 1) ≤ mem 182 9 ∧ fN_ mem e f = q
def fv1 (mem : mt_M) (e f : Int) (q : List Int) : Prop := 0 ≤ mem 186 (4 * (8 * e + f) + 2) ∧ 0 ≤ mem 186 (4 * (8 * e + f) + 3) ∧ mem 186 (4 * (8 * e + f) + 2) + mem 186 (4 * (8 * e + f) + 3) ≤ mem 182 9 ∧ fV_ mem e f = q
def fv0 (mem : mt_M) (e f : Int) (q : List Int) : Prop := 0 ≤ mem 186 (4 * (8 * e + f) + 2) ∧ mem 186 (4 * (8 * e + f) + 2) ≤ mem 182 9 ∧ slc (mem 187) (mem 186 (4 * (8 * e + f) + 2)) (mem 182 9) = q
def repF (mem : mt_M) (e : Int) (L : List (List Int × List Int)) : Prop := mem 185 (16 * e + 3) = L.length ∧ L.length ≤ 8 ∧ ∀ (f : Nat) (q : List Int × List Int), L[f]? = some q → fn1 mem e f q.1 ∧ fv1 mem e f q.2
def opF (mem : mt_M) (e : Int) (L : List (List Int × List Int)) : Prop := mem 185 (16 * e + 3) = L.length ∧ L.length ≤ 8 ∧ ∀ (f : Nat) (q : List Int × List Int), L[f]? = some q → fn1 mem e f q.1 ∧ (f + 1 < L.length → fv1 mem e f (tr_ q.2)) ∧ (f + 1 = L.length → fv0 mem e f q.2)
def tmap (L : List (List Int × List Int)) : List (List Int × List Int) := L.map (fun q => (q.1, tr_ q.2))
/-- the text has only grown -/
def ups (m m' : mt_M) : Prop := m 182 9 ≤ m' 182 9 ∧ ∀ z : Int, z < m 182 9 → m' 187 z = m 187 z
theorem fn1.mov {m m' : mt_M} {e f : Int} {q : List Int} (h : fn1 m e f q) (hu : ups m m') (h0 : m' 186 (4 * (8 * e + f)) = m 186 (4 * (8 * e + f))) (h1 : m' 186 (4 * (8 * e + f) + 1) = m 186 (4 * (8 * e + f) + 1)) : fn1 m' e f q := by
  obtain ⟨a, b, c, d⟩ := h
  have hu1 := hu.1
  refine ⟨by omega, by omega, by omega, ?_⟩
  unfold fN_ at d ⊢
  rw [h0, h1, ← d]
  exact slc_ext (fun i _ h2 => hu.2 i (by omega))
theorem fv1.mov {m m' : mt_M} {e f : Int} {q : List Int} (h : fv1 m e f q) (hu : ups m m') (h0 : m' 186 (4 * (8 * e + f) + 2) = m 186 (4 * (8 * e + f) + 2)) (h1 : m' 186 (4 * (8 * e + f) + 3) = m 186 (4 * (8 * e + f) + 3)) : fv1 m' e f q := by
  obtain ⟨a, b, c, d⟩ := h
  have hu1 := hu.1
  refine ⟨by omega, by omega, by omega, ?_⟩
  unfold fV_ at d ⊢
  rw [h0, h1, ← d]
  exact slc_ext (fun i _ h2 => hu.2 i (by omega))
theorem opF_trim {mem m' : mt_M} {e : Int} {L : List (List Int × List Int)} (h : opF mem e L) (h0 : (L.length : Int) = 0 → mem = m') (h1 : 0 < (L.length : Int) → ∃ a n : Int, mem 186 (4 * (8 * e + (L.length - 1)) + 2) ≤ a ∧ 0 ≤ n ∧ a + n ≤ mem 182 9 ∧ slc (mem 187) a (a + n) = tr_ (slc (mem 187) (mem 186 (4 * (8 * e + (L.length - 1)) + 2)) (mem 182 9)) ∧ m' = st_ (st_ mem 186 (4 * (8 * e + (L.length - 1)) + 2) a) 186 (4 * (8 * e + (L.length - 1)) + 3) n) : repF m' e (tmap L) := by
  obtain ⟨a1, a2, a3⟩ := h
  by_cases hz : (L.length : Int) = 0
  · rw [← h0 hz]
    have : L = [] := List.length_eq_zero_iff.mp (by omega)
    subst this
    exact ⟨a1, by simp [tmap], fun f q hq => by simp [tmap] at hq⟩
  · obtain ⟨a, n, b1, b2, b3, b4, b5⟩ := h1 (by omega)
    have hT : m' 182 9 = mem 182 9 := by rw [b5, st_ne (by omega), st_ne (by omega)]
    have hX : m' 187 = mem 187 := by rw [b5, st_row (by decide), st_row (by decide)]
    have hu : ups mem m' := ⟨by omega, fun z _ => by rw [hX]⟩
    refine ⟨by rw [b5, st_row (by decide), st_row (by decide), a1]; simp [tmap], by simp [tmap]; exact a2, fun f q hq => ?_⟩
    unfold tmap at hq
    rw [List.getElem?_map] at hq
    cases hL : L[f]? with
    | none => rw [hL] at hq; cases hq
    | some r =>
      rw [hL] at hq
      have hf := (List.getElem?_eq_some_iff.mp hL).1
      have hq : q = (r.1, tr_ r.2) := (Option.some.inj hq).symm
      subst hq
      obtain ⟨c1, c2, c3⟩ := a3 f r hL
      refine ⟨c1.mov hu (by rw [b5, st_ne (by omega), st_ne (by omega)]) (by rw [b5, st_ne (by omega), st_ne (by omega)]), ?_⟩
      by_cases hl : f + 1 = L.length
      · obtain ⟨d1, d2, d3⟩ := c3 hl
        have hfl : (f : Int) = L.length - 1 := by omega
        rw [← hfl] at b1 b4 b5
        have e1 : m' 186 (4 * (8 * e + (f : Int)) + 2) = a := by rw [b5, st_ne (by omega), st_same]
        have e2 : m' 186 (4 * (8 * e + (f : Int)) + 3) = n := by rw [b5, st_same]
        refine ⟨by omega, by omega, by omega, ?_⟩
        unfold fV_
        rw [e1, e2, hX, b4, d3]
      · exact (c2 (by omega)).mov hu (by rw [b5, st_ne (by omega), st_ne (by omega)]) (by rw [b5, st_ne (by omega), st_ne (by omega)])
theorem opF_begin {m m2 m4 m' : mt_M} {e sz : Int} {L : List (List Int × List Int)} {N V : List Int} (h : repF m e (tmap L)) (hl : L.length < 8) (hT : 0 ≤ m 182 9) (hsz : (N.length : Int) = sz) (h2 : ap_ (st_ (st_ m 186 (4 * (8 * e + (L.length : Int))) (m 182 9)) 186 (4 * (8 * e + (L.length : Int)) + 1) sz) N m2) (h4 : ap_ (st_ m2 186 (4 * (8 * e + (L.length : Int)) + 2) (m2 182 9)) V m4) (h' : m' = st_ m4 185 (16 * e + 3) (L.length + 1)) : opF m' e (L ++ [(N, V)]) := by
  obtain ⟨a1, a2, a3⟩ := h
  generalize hk : 4 * (8 * e + (L.length : Int)) = k at *
  have t2 := h2.1
  rw [st_ne (by omega), st_ne (by omega)] at t2
  have t4 := h4.1
  rw [st_ne (by omega)] at t4
  have t5 : m' 182 9 = m4 182 9 := by rw [h', st_ne (by omega)]
  have F4 : ∀ z, m' 186 z = if z = k + 2 then m2 182 9 else if z = k + 1 then sz else if z = k then m 182 9 else m 186 z := by
    intro z
    rw [h', st_row (by decide), h4.row (r := 186) (by decide) (by decide), st_at, h2.row (r := 186) (by decide) (by decide), st_at, st_at]
    simp
  have x2 := h2.2.1
  have x4 := h4.2.1
  rw [st_ne (by omega), st_ne (by omega)] at x2
  rw [st_ne (by omega)] at x4
  have X2 : ∀ z, z < m 182 9 → m2 187 z = m 187 z := fun z hz => by rw [h2.2.2 _ _ (Or.inr (by rw [st_ne (by omega), st_ne (by omega)]; exact hz)) (Or.inl (by decide)), st_row (by decide), st_row (by decide)]
  have X4 : ∀ z, z < m2 182 9 → m' 187 z = m2 187 z := fun z hz => by rw [h', st_row (by decide), h4.2.2 _ _ (Or.inr (by rw [st_ne (by omega)]; exact hz)) (Or.inl (by decide)), st_row (by decide)]
  have hu : ups m m' := ⟨by omega, fun z hz => by rw [X4 z (by omega), X2 z hz]⟩
  refine ⟨by rw [h', st_same, List.length_append]; simp, by rw [List.length_append]; simp; omega, fun f q hq => ?_⟩
  rw [List.length_append] at *
  simp only [List.length_cons, List.length_nil] at *
  by_cases hf : f < L.length
  · rw [List.getElem?_append_left hf] at hq
    obtain ⟨c1, c2⟩ := a3 f (q.1, tr_ q.2) (by unfold tmap; rw [List.getElem?_map, hq]; rfl)
    refine ⟨c1.mov hu (by rw [F4, if_neg (by omega), if_neg (by omega), if_neg (by omega)]) (by rw [F4, if_neg (by omega), if_neg (by omega), if_neg (by omega)]), fun _ => c2.mov hu (by rw [F4, if_neg (by omega), if_neg (by omega), if_neg (by omega)]) (by rw [F4, if_neg (by omega), if_neg (by omega), if_neg (by omega)]), fun z => by omega⟩
  · have hf2 : f = L.length := by
      have := (List.getElem?_eq_some_iff.mp hq).1
      rw [List.length_append] at this
      simp only [List.length_cons, List.length_nil] at this
      omega
    subst hf2
    have hq2 : q = (N, V) := by rw [List.getElem?_append_right (Nat.le_refl _)] at hq; simp at hq; exact hq.symm
    subst hq2
    have g0 : m' 186 k = m 182 9 := by rw [F4, if_neg (by omega), if_neg (by omega), if_pos rfl]
    have g1 : m' 186 (k + 1) = sz := by rw [F4, if_neg (by omega), if_pos rfl]
    have g2 : m' 186 (k + 2) = m2 182 9 := by rw [F4, if_pos rfl]
    refine ⟨⟨by rw [hk]; omega, by rw [hk]; omega, by rw [hk]; omega, ?_⟩, fun z => by omega, fun _ => ⟨by rw [hk]; omega, by rw [hk]; omega, ?_⟩⟩
    · unfold fN_
      rw [hk, g0, g1, show m 182 9 + sz = m2 182 9 by omega, ← x2]
      exact slc_ext (fun i _ h2 => X4 i h2)
    · rw [hk, g2, t5, ← x4, h', st_row (by decide)]
theorem apl_len : ∀ (L : List (List Int × List Int)) (v : List Int), (apl L v).length = L.length
  | [], _ => rfl
  | [q], _ => rfl
  | q :: r :: t, v => by simp only [apl, List.length_cons]; rw [apl_len (r :: t) v]; rfl
theorem apl_get : ∀ (L : List (List Int × List Int)) (v : List Int) (f : Nat) (q : List Int × List Int), (apl L v)[f]? = some q → ∃ r, L[f]? = some r ∧ q.1 = r.1 ∧ (f + 1 < L.length → q = r) ∧ (f + 1 = L.length → q.2 = r.2 ++ v)
  | [], v, f, q, h => by simp [apl] at h
  | [p], v, 0, q, h => by
    simp only [apl, List.getElem?_cons_zero, Option.some.injEq] at h
    subst h
    exact ⟨p, rfl, rfl, fun z => by simp at z, fun _ => rfl⟩
  | [p], v, f + 1, q, h => by simp [apl] at h
  | p :: r :: t, v, 0, q, h => by
    simp only [apl, List.getElem?_cons_zero, Option.some.injEq] at h
    subst h
    exact ⟨p, rfl, rfl, fun _ => rfl, fun z => by simp at z⟩
  | p :: r :: t, v, f + 1, q, h => by
    simp only [apl, List.getElem?_cons_succ] at h
    obtain ⟨s, h1, h2, h3, h4⟩ := apl_get (r :: t) v f q h
    exact ⟨s, by simpa using h1, h2, fun z => h3 (by simpa using z), fun z => h4 (by simpa using z)⟩
theorem opF_cont {m m' : mt_M} {e : Int} {L : List (List Int × List Int)} {V : List Int} (h : opF m e L) (h2 : ap_ m V m') : opF m' e (apl L V) := by
  obtain ⟨a1, a2, a3⟩ := h
  have t2 := h2.1
  have hF : m' 186 = m 186 := h2.row (by decide) (by decide)
  have hu : ups m m' := ⟨by omega, fun z hz => h2.2.2 _ _ (Or.inr hz) (Or.inl (by decide))⟩
  refine ⟨by rw [h2.row (by decide) (by decide), apl_len]; exact a1, by rw [apl_len]; exact a2, fun f q hq => ?_⟩
  obtain ⟨r, b1, b2, b3, b4⟩ := apl_get L V f q hq
  obtain ⟨c1, c2, c3⟩ := a3 f r b1
  rw [apl_len]
  refine ⟨by rw [b2]; exact c1.mov hu (by rw [hF]) (by rw [hF]), fun z => by rw [b3 z]; exact (c2 z).mov hu (by rw [hF]) (by rw [hF]), fun z => ?_⟩
  obtain ⟨d1, d2, d3⟩ := c3 z
  refine ⟨by rw [hF]; exact d1, by rw [hF]; omega, ?_⟩
  rw [hF, b4 z, slc_app d2 (by omega), h2.2.1, slc_ext (g := m 187) (fun i _ i2 => hu.2 i i2), d3]
/-- what reading the fields of e changes -/
def fF_ (mem : mt_M) (e : Int) (m : mt_M) : Prop := mem 182 9 ≤ m 182 9 ∧ ∀ (r : Nat) (z : Int), (r ≠ 187 ∨ z < mem 182 9) → (r ≠ 182 ∨ z ≠ 9) → (r ≠ 186 ∨ z < 32 * e ∨ 32 * e + 32 ≤ z) → (r ≠ 185 ∨ z ≠ 16 * e + 3) → m r z = mem r z
theorem fF_.rf {mem : mt_M} {e : Int} : fF_ mem e mem := ⟨Int.le_refl _, fun _ _ _ _ _ _ => rfl⟩
theorem fF_.trans {a b c : mt_M} {e : Int} (h1 : fF_ a e b) (h2 : fF_ b e c) : fF_ a e c := ⟨Int.le_trans h1.1 h2.1, fun r z p q s t => by
  rw [h2.2 r z (by have := h1.1; rcases p with p | p; exact Or.inl p; exact Or.inr (by omega)) q s t]; exact h1.2 r z p q s t⟩
theorem fF_.ap {a b c : mt_M} {e : Int} {l : List Int} (h1 : fF_ a e b) (h2 : ap_ b l c) : fF_ a e c := ⟨by have := h1.1; have := h2.1; omega, fun r z p q s t => by
  rw [h2.2.2 r z (by have := h1.1; rcases p with p | p; exact Or.inl p; exact Or.inr (by omega)) q]; exact h1.2 r z p q s t⟩
theorem fF_.fld {a b : mt_M} {e z v : Int} (h1 : fF_ a e b) (hz : 32 * e ≤ z ∧ z < 32 * e + 32) : fF_ a e (st_ b 186 z v) := ⟨by rw [st_ne (by omega)]; exact h1.1, fun r z' p q s t => by
  rw [st_ne (by omega)]; exact h1.2 r z' p q s t⟩
theorem fF_.dat {a b : mt_M} {e v : Int} (h1 : fF_ a e b) : fF_ a e (st_ b 185 (16 * e + 3) v) := ⟨by rw [st_ne (by omega)]; exact h1.1, fun r z' p q s t => by
  rw [st_ne (by omega)]; exact h1.2 r z' p q s t⟩
theorem fF_.src {a b : mt_M} {e : Int} (h : fF_ a e b) : b 184 = a 184 := by funext z; exact h.2 _ _ (Or.inl (by decide)) (Or.inl (by decide)) (Or.inl (by decide)) (Or.inl (by decide))
