/-! The class: rows that grow. -/
theorem bL_fit {r : Nat} : ∀ (A : List Int) (m : mt_M), 0 ≤ m r 1 → m r 1 + A.length ≤ ln_ (r + 8) → bL_ m r A r 1 = m r 1 + A.length ∧ bL_ m r A r 2 = m r 2 ∧ (∀ z : Int, z < m r 1 → bL_ m r A (r + 8) z = m (r + 8) z) ∧ slc (bL_ m r A (r + 8)) (m r 1) (m r 1 + A.length) = A
  | [], m, h0, h1 => ⟨by show m r 1 = m r 1 + ((0 : Nat) : Int); omega, rfl, fun _ _ => rfl, slc_nil (by show m r 1 + ((0 : Nat) : Int) ≤ m r 1; omega)⟩
  | c :: t, m, h0, h1 => by
    rw [List.length_cons] at h1
    have e0 : bp_ m r c = st_ (st_ m (r + 8) (m r 1) c) r 1 (m r 1 + 1) := if_pos (by omega)
    have e1 : bp_ m r c r 1 = m r 1 + 1 := by rw [e0, st_same]
    have e2 : bp_ m r c r 2 = m r 2 := by rw [e0, st_ne (Or.inr (by decide)), st_ne (Or.inl (by omega))]
    have e3 : bp_ m r c (r + 8) (m r 1) = c := by rw [e0, st_row (by omega), st_same]
    have e4 : ∀ z : Int, z ≠ m r 1 → bp_ m r c (r + 8) z = m (r + 8) z := fun z hz => by rw [e0, st_row (by omega), st_ne (Or.inr hz)]
    obtain ⟨i1, i2, i3, i4⟩ := bL_fit (r := r) t (bp_ m r c) (by omega) (by omega)
    rw [e1] at i1 i3 i4
    refine ⟨?_, ?_, fun z hz => ?_, ?_⟩
    · show bL_ (bp_ m r c) r t r 1 = _
      rw [i1, List.length_cons]; omega
    · show bL_ (bp_ m r c) r t r 2 = _
      rw [i2, e2]
    · show bL_ (bp_ m r c) r t (r + 8) z = _
      rw [i3 z (by omega), e4 z (by omega)]
    · show slc (bL_ (bp_ m r c) r t (r + 8)) (m r 1) _ = c :: t
      rw [List.length_cons, slc_cons (by omega), i3 (m r 1) (by omega), e3]
      congr 1
      rw [show m r 1 + ((t.length + 1 : Nat) : Int) = m r 1 + 1 + t.length by omega]
      exact i4
theorem bw_.bL {m : mt_M} {r : Nat} {A : List Int} (h : bw_ m r) (hA : ∀ c ∈ A, 0 ≤ c ∧ c ≤ 255) (hf : m r 1 + A.length ≤ ln_ (r + 8)) : bw_ (bL_ m r A) r := by
  obtain ⟨h1, h2, h3, h4⟩ := h
  obtain ⟨i1, i2, i3, i4⟩ := bL_fit (r := r) A m h2 hf
  refine ⟨h1, by omega, by omega, fun i i0 hi => ?_⟩
  by_cases k : i < m r 1
  · rw [i3 i k]; exact h4 i i0 k
  · have := slc_get (f := bL_ m r A (r + 8)) (p := m r 1) (e := m r 1 + A.length) (i := i - m r 1) (by omega) (by omega)
    rw [i4, show m r 1 + (i - m r 1) = i by omega] at this
    exact hA _ (List.mem_of_getElem? this)
/-- a row keeps what it has and grows -/
def up_ (m m' : mt_M) (r : Nat) : Prop := m r 1 ≤ m' r 1 ∧ ∀ z : Int, z < m r 1 → m' (r + 8) z = m (r + 8) z
theorem up_.rf {m : mt_M} {r : Nat} : up_ m m r := ⟨Int.le_refl _, fun _ _ => rfl⟩
theorem up_.trans {a b c : mt_M} {r : Nat} (h1 : up_ a b r) (h2 : up_ b c r) : up_ a c r := ⟨Int.le_trans h1.1 h2.1, fun z hz => by rw [h2.2 z (by have := h1.1; omega), h1.2 z hz]⟩
theorem up_.same {a b : mt_M} {r : Nat} (h1 : b r 1 = a r 1) (h2 : b (r + 8) = a (r + 8)) : up_ a b r := ⟨by rw [h1]; exact Int.le_refl _, fun z _ => by rw [h2]⟩
theorem up_.bL {m : mt_M} {r : Nat} {A : List Int} (h0 : 0 ≤ m r 1) (hf : m r 1 + A.length ≤ ln_ (r + 8)) : up_ m (bL_ m r A) r := by
  obtain ⟨i1, i2, i3, i4⟩ := bL_fit (r := r) A m h0 hf
  exact ⟨by omega, i3⟩
theorem up_.slc {m m' : mt_M} {r : Nat} {p e : Int} (h : up_ m m' r) (he : e ≤ m r 1) : slc (m' (r + 8)) p e = slc (m (r + 8)) p e := slc_ext (fun z _ hz => h.2 z (by omega))
theorem bw_.mov {m m' : mt_M} {r : Nat} (h : bw_ m r) (h1 : m' r = m r) (h2 : m' (r + 8) = m (r + 8)) : bw_ m' r := by
  unfold bw_; rw [h1, h2]; exact h
