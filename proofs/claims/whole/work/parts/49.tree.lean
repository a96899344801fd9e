/-! The tree that is read: entities as values. -/
abbrev mt_E : Type := (Int → Int) × List (List Int × List Int) × List Int × List Int
/-- the first value of that name -/
def fnd (w : List Int) (L : List (List Int × List Int)) : Option (List Int) := (L.find? (fun q => wd_ w q.1)).map (fun q => q.2)
theorem fnd_cons (w : List Int) (q : List Int × List Int) (L : List (List Int × List Int)) : fnd w (q :: L) = if wd_ w q.1 = true then some q.2 else fnd w L := by
  unfold fnd
  rw [List.find?_cons]
  by_cases h : wd_ w q.1 = true
  · rw [h, if_pos rfl]; rfl
  · rw [if_neg h]; simp [h]
theorem fnd_spec (w : List Int) : ∀ (L : List (List Int × List Int)), (fnd w L = none ∧ ∀ (i : Nat) (q : List Int × List Int), L[i]? = some q → ¬ wd_ w q.1 = true) ∨ ∃ (i : Nat) (q : List Int × List Int), L[i]? = some q ∧ fnd w L = some q.2 ∧ wd_ w q.1 = true ∧ ∀ (j : Nat) (q' : List Int × List Int), j < i → L[j]? = some q' → ¬ wd_ w q'.1 = true
  | [] => Or.inl ⟨rfl, fun i q h => by simp at h⟩
  | p :: L => by
    rw [fnd_cons]
    by_cases h : wd_ w p.1 = true
    · rw [if_pos h]
      exact Or.inr ⟨0, p, rfl, rfl, h, fun j q' hj => absurd hj (by omega)⟩
    · rw [if_neg h]
      rcases fnd_spec w L with ⟨h1, h2⟩ | ⟨i, q, h1, h2, h3, h4⟩
      · refine Or.inl ⟨h1, fun i q hq => ?_⟩
        cases i with
        | zero => simp at hq; subst hq; exact h
        | succ i => exact h2 i q (by simpa using hq)
      · refine Or.inr ⟨i + 1, q, by simpa using h1, h2, h3, fun j q' hj hq => ?_⟩
        cases j with
        | zero => simp at hq; subst hq; exact h
        | succ j => exact h4 j q' (by omega) (by simpa using hq)
theorem fld_of {mem : mt_M} {e : Int} {L : List (List Int × List Int)} {w : List Int} (h : repF mem e L) : fld_ mem e L.length w (fnd w L) := by
  rcases fnd_spec w L with ⟨h1, h2⟩ | ⟨i, q, h1, h2, h3, h4⟩
  · rw [h1]
    intro f f0 f1
    obtain ⟨n, rfl⟩ := Int.eq_ofNat_of_zero_le f0
    have hn : n < L.length := by omega
    have := h2 n _ (List.getElem?_eq_getElem hn)
    rw [((h.2.2 n _ (List.getElem?_eq_getElem hn)).1).2.2.2]
    exact this
  · rw [h2]
    have hi := (List.getElem?_eq_some_iff.mp h1).1
    refine ⟨i, by omega, by omega, ?_, fun f f0 f1 => ?_, ?_⟩
    · rw [((h.2.2 i q h1).1).2.2.2]; exact h3
    · obtain ⟨n, rfl⟩ := Int.eq_ofNat_of_zero_le f0
      have hn : n < L.length := by omega
      rw [((h.2.2 n _ (List.getElem?_eq_getElem hn)).1).2.2.2]
      exact h4 n _ (by omega) (List.getElem?_eq_getElem hn)
    · exact ((h.2.2 i q h1).2).2.2.2
theorem repF.fw {mem : mt_M} {e : Int} {L : List (List Int × List Int)} (h : repF mem e L) (h0 : 0 ≤ e) (h1 : e < 16) : fw_ mem e L.length := by
  refine ⟨h0, h1, by omega, by have := h.2.1; omega, h.1, fun f f0 f1 => ?_⟩
  obtain ⟨n, rfl⟩ := Int.eq_ofNat_of_zero_le f0
  have hn : n < L.length := by omega
  obtain ⟨⟨a1, a2, a3, -⟩, ⟨b1, b2, b3, -⟩⟩ := h.2.2 n _ (List.getElem?_eq_getElem hn)
  exact ⟨a1, a2, a3, b1, b2, b3⟩
theorem repF.vs {mem : mt_M} {e : Int} {L : List (List Int × List Int)} {N : Int} (h : repF mem e L) (hN : ∀ q ∈ L, (q.2.length : Int) ≤ N) : ∀ f : Int, 0 ≤ f → f < L.length → mem 186 (4 * (8 * e + f) + 3) ≤ N := by
  intro f f0 f1
  obtain ⟨n, rfl⟩ := Int.eq_ofNat_of_zero_le f0
  have hn : n < L.length := by omega
  obtain ⟨-, ⟨b1, b2, b3, b4⟩⟩ := h.2.2 n _ (List.getElem?_eq_getElem hn)
  have := hN _ (List.getElem_mem hn)
  rw [← b4] at this
  unfold fV_ at this
  rw [slc_len] at this
  omega
theorem tr_len (L : List Int) : (tr_ L).length ≤ L.length := Nat.le_trans (rt_len _) (bb_suf L).length_le
theorem apl_mem : ∀ (L : List (List Int × List Int)) (v : List Int) (q : List Int × List Int), q ∈ apl L v → ∃ r ∈ L, q.2.length ≤ r.2.length + v.length
  | [], v, q, h => by simp [apl] at h
  | [p], v, q, h => by
    simp only [apl, List.mem_singleton] at h
    subst h
    exact ⟨p, by simp, by simp⟩
  | p :: r :: t, v, q, h => by
    rw [apl] at h
    rcases List.mem_cons.mp h with h | h
    · subst h; exact ⟨q, by simp, by omega⟩
    · obtain ⟨s, h1, h2⟩ := apl_mem (r :: t) v q h
      exact ⟨s, List.mem_cons_of_mem _ h1, h2⟩
theorem fl1_inv {f : Int → Int} {b s : Int} : ∀ (k : Nat) (p : Int) (acc : List (List Int × List Int)), b ≤ p → p ≤ s → (s - p).toNat + 1 ≤ k → (∀ q ∈ acc, (q.2.length : Int) ≤ p - b) → acc.length ≤ 8 → p ≤ (fl1 f s k p acc).2 ∧ (fl1 f s k p acc).2 ≤ s ∧ (fl1 f s k p acc).1.length ≤ 8 ∧ ∀ q ∈ (fl1 f s k p acc).1, (q.2.length : Int) ≤ (fl1 f s k p acc).2 - b
  | 0, p, acc, _, _, h, _, _ => by omega
  | k + 1, p, acc, h1, h2, h3, h4, h5 => by
    rw [fl1]
    have hle := lineEnd_b (f := f) (e := s) _ p rfl h2
    have hte := textEnd_b (f := f) (p := p) (e := s) h2
    have hns := nameSize_b (f := f) (p := p) (e := textEnd_ f p s) hte.1
    split
    · exact ⟨h2, Int.le_refl _, h5, fun q hq => by have := h4 q hq; show (q.2.length : Int) ≤ s - b; omega⟩
    · split
      · exact ⟨hle.1, hle.2.1, h5, fun q hq => by have := h4 q hq; show (q.2.length : Int) ≤ lineEnd_ f p s - b; omega⟩
      · split
        · rename_i hc
          have hnn := hns.2 hc.1
          have := fl1_inv (f := f) (b := b) (s := s) k (lineEnd_ f p s) (acc ++ [(slc f p (p + nameSize_ f p (textEnd_ f p s)), slc f (p + nameSize_ f p (textEnd_ f p s) + 1) (textEnd_ f p s))]) (by omega) (by omega) (by omega) (fun q hq => by
            rcases List.mem_append.mp hq with hq | hq
            · have := h4 q hq; omega
            · simp at hq; subst hq; show ((slc f _ _).length : Int) ≤ _; rw [slc_len]; omega) (by simp; omega)
          exact ⟨by omega, this.2⟩
        · split
          · have := fl1_inv (f := f) (b := b) (s := s) k (lineEnd_ f p s) (apl acc (slc f p (textEnd_ f p s))) (by omega) (by omega) (by omega) (fun q hq => by
              obtain ⟨r, hr, hl⟩ := apl_mem acc _ q hq
              rw [slc_len] at hl
              have := h4 r hr; omega) (by rw [apl_len]; exact h5)
            exact ⟨by omega, this.2⟩
          · exact ⟨Int.le_refl _, h2, h5, h4⟩
theorem flds_inv {f : Int → Int} {b s : Int} (h : b ≤ s) : b ≤ (flds f b s).2 ∧ (flds f b s).2 ≤ s ∧ (flds f b s).1.length ≤ 8 ∧ ∀ q ∈ (flds f b s).1, (q.2.length : Int) ≤ (flds f b s).2 - b := by
  obtain ⟨a1, a2, a3, a4⟩ := fl1_inv (f := f) (b := b) (s := s) ((s - b).toNat + 1) b [] (Int.le_refl _) h (Nat.le_refl _) (by simp) (by simp)
  refine ⟨a1, a2, by show (List.map _ _).length ≤ 8; rw [List.length_map]; exact a3, fun q hq => ?_⟩
  obtain ⟨r, hr, rfl⟩ := List.mem_map.mp hq
  have := a4 r hr
  have := tr_len r.2
  show ((tr_ r.2).length : Int) ≤ (fl1 f s ((s - b).toNat + 1) b []).2 - b
  omega
/-- ranges one behind the other, from lo on, in s -/
def chR : Int → Int → List (Int × Int) → Prop
  | _, _, [] => True
  | lo, s, q :: t => lo ≤ q.1 ∧ q.1 ≤ q.2 ∧ q.2 ≤ s ∧ chR (q.2 + 3) s t
theorem pts_ch {f : Int → Int} {s : Int} {B : List Int} (hB : 1 ≤ B.length) : ∀ (k : Nat) (p : Int) (o : Option Int) (last lo : Int), p ≤ s → (s - p).toNat + 1 ≤ k → last ≤ p → (∀ b, o = some b → lo ≤ b ∧ b ≤ last) → (o = none → lo ≤ p) → chR lo s (pts f s B k p o last)
  | 0, _, _, _, _, _, h, _, _, _ => by omega
  | k + 1, p, o, last, lo, h1, h2, h3, h4, h5 => by
    rw [pts]
    have hle := lineEnd_b (f := f) (e := s) _ p rfl h1
    have hte := textEnd_b (f := f) (p := p) (e := s) h1
    have hmk := mk_b B (slc f p (textEnd_ f p s))
    rw [slc_len] at hmk
    split
    · cases o with
      | none => trivial
      | some b => have := h4 b rfl; exact ⟨this.1, by show b ≤ s; omega, Int.le_refl _, trivial⟩
    · split
      · cases o with
        | none => trivial
        | some b => have := h4 b rfl; exact ⟨this.1, this.2, by show last ≤ s; omega, trivial⟩
      · split
        · rename_i hk1
          have hl := hmk.2 (by omega)
          cases o with
          | none =>
            have := h5 rfl
            exact pts_ch hB k _ _ _ lo (by omega) (by omega) (Int.le_refl _) (fun b hb => by cases hb; omega) (fun z => by cases z)
          | some b =>
            have := h4 b rfl
            exact ⟨this.1, this.2, by show last ≤ s; omega, pts_ch hB k _ _ _ (last + 3) (by omega) (by omega) (Int.le_refl _) (fun b hb => by cases hb; omega) (fun z => by cases z)⟩
        · exact pts_ch hB k _ _ _ lo (by omega) (by omega) (by omega) (fun b hb => by have := h4 b hb; omega) (fun z => by have := h5 z; omega)
