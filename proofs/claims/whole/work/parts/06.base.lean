/-! The judgement JJ's base: the world as a list, locals. mem r z: the number that stands in cell r at place z. -/
def st_ (mem : mt_M) (r : Nat) (z v : Int) : mt_M := fun r' => if r' = r then (fun z' => if z' = z then v else mem r z') else mem r'
def row_ (mem : mt_M) (r : Nat) (f : Int → Int) : mt_M := fun r' => if r' = r then f else mem r'
def wd (G : mt_G) (mem : mt_M) : va_W := (List.range mt_N).map (fun r => (G.1 r, ce_ G (mem r) r))
theorem wd_get {G : mt_G} {mem : mt_M} {r : Nat} (h : r < mt_N) : (wd G mem)[r]? = some (G.1 r, ce_ G (mem r) r) := by
  simp [wd, List.getElem?_map, List.getElem?_range h]
theorem wd_len {G : mt_G} {mem : mt_M} : (wd G mem).length = mt_N := by simp [wd]
theorem wd_set {G : mt_G} {mem : mt_M} {r : Nat} {f : Int → Int} (h : r < mt_N) : (wd G mem).set r (G.1 r, ce_ G f r) = wd G (row_ mem r f) := by
  apply List.ext_getElem?
  intro i
  rw [List.getElem?_set]
  by_cases hi : i < mt_N
  · by_cases e : r = i
    · subst e
      rw [if_pos rfl, if_pos (by rw [wd_len]; exact h), wd_get h]
      simp [row_]
    · rw [if_neg e, wd_get hi, wd_get hi]
      have : row_ mem r f i = mem i := by unfold row_; rw [if_neg (fun z => e z.symm)]
      rw [this]
  · have e1 : (wd G (row_ mem r f))[i]? = none := List.getElem?_eq_none (by rw [wd_len]; omega)
    have e2 : (wd G mem)[i]? = none := List.getElem?_eq_none (by rw [wd_len]; omega)
    rw [e1, e2]
    split
    · split
      · rename_i h1 h2; subst h1; exact absurd h hi
      · rfl
    · rfl
theorem wd_at {G : mt_G} {mem : mt_M} {i : Nat} {q : Nat × va_E} (h : (wd G mem)[i]? = some q) : i < mt_N ∧ q = (G.1 i, ce_ G (mem i) i) := by
  have hi : i < mt_N := by
    have := (List.getElem?_eq_some_iff.mp h).1
    rw [wd_len] at this; exact this
  rw [wd_get hi] at h
  exact ⟨hi, (Option.some.inj h).symm⟩
def in_ (G : mt_G) : Prop := ∀ i j : Nat, i < mt_N → j < mt_N → G.1 i = G.1 j → i = j
theorem wd_D {G : mt_G} {mem : mt_M} {A : Nat → Prop} (hi : in_ G) (hA : ∀ r, r < mt_N → A (G.1 r)) : va_D A (wd G mem) := by
  refine ⟨fun i j p q hp hq e => ?_, fun k q hk => ?_⟩
  · obtain ⟨h1, rfl⟩ := wd_at hp
    obtain ⟨h2, rfl⟩ := wd_at hq
    exact hi i j h1 h2 e
  · obtain ⟨h1, rfl⟩ := wd_at hk
    exact hA k h1
/-- what a method may change: the cells of the world, and what is new -/
def As_ (G : mt_G) (sz : Nat) : Nat → Prop := fun q => (∃ r, r < mt_N ∧ q = G.1 r) ∨ sz ≤ q
/-- locals: known values by place -/
def lo_ (ls : Array Slot) (lo : List (Option Value)) : Prop := ls.size = lo.length ∧ lv_wf ls ∧ ∀ (i : Nat) (v : Value), lo[i]? = some (some v) → ls[i]? = some (.val v)
def lo_l (lo : List (Option Value)) : List (Nat × Value) := (List.range lo.length).filterMap (fun j => (lo.getD j none).map (fun w => (j, w)))
theorem lo_l_mem {lo : List (Option Value)} {j : Nat} {w : Value} : (j, w) ∈ lo_l lo ↔ lo[j]? = some (some w) := by
  unfold lo_l
  rw [List.mem_filterMap]
  constructor
  · rintro ⟨i, h1, h2⟩
    cases hq : lo.getD i none with
    | none => rw [hq] at h2; cases h2
    | some v =>
      rw [hq] at h2
      have h3 := Option.some.inj h2
      obtain ⟨rfl, rfl⟩ := Prod.mk.inj h3
      rw [List.getD_eq_getElem?_getD] at hq
      cases h4 : lo[i]? with
      | none => rw [h4] at hq; cases hq
      | some o => rw [h4] at hq; exact congrArg some hq
  · intro h
    refine ⟨j, List.mem_range.mpr (List.getElem?_eq_some_iff.mp h).1, ?_⟩
    rw [List.getD_eq_getElem?_getD, h]
    rfl
theorem lo_has {ls : Array Slot} {lo : List (Option Value)} (h : lo_ ls lo) : lv_has ls lo.length (lo_l lo) := ⟨h.1, h.2.1, fun q hq => h.2.2 q.1 q.2 (lo_l_mem.mp hq)⟩
/-- no two-slot value stands right before the place -/
def lo_ok (lo : List (Option Value)) (i : Nat) : Bool := match i with
  | 0 => true
  | j + 1 => match lo[j]? with
    | some (some v) => v.category == 1
    | _ => true
theorem lo_st1 {lo : List (Option Value)} {i : Nat} {v : Value} (hk : lo_ok lo i = true) :
    ∀ ls', lv_has ls' lo.length ((i, v) :: (lo_l lo).filter (fun q => !(q.1 == i) && !(q.1 + 1 == i && q.2.category == 2))) → lo_ ls' (lo.set i (some v)) := by
  intro ls' h'
  refine ⟨by rw [List.length_set]; exact h'.1, h'.2.1, fun j w hj => ?_⟩
  rw [List.getElem?_set] at hj
  by_cases e : i = j
  · subst e
    rw [if_pos rfl] at hj
    split at hj
    · rw [← Option.some.inj (Option.some.inj hj)]
      exact h'.2.2 (i, v) List.mem_cons_self
    · cases hj
  · rw [if_neg e] at hj
    refine h'.2.2 (j, w) (List.mem_cons_of_mem _ (List.mem_filter.mpr ⟨lo_l_mem.mpr hj, ?_⟩))
    simp only [Bool.and_eq_true, Bool.not_eq_true', beq_eq_false_iff_ne, ne_eq, Bool.and_eq_false_iff]
    refine ⟨fun z => e z.symm, ?_⟩
    by_cases e2 : j + 1 = i
    · right
      subst e2
      simp only [lo_ok, hj] at hk
      simp only [beq_iff_eq] at hk
      rw [hk]; decide
    · left; exact e2
theorem lo_st2 {lo : List (Option Value)} {i : Nat} {v : Value} (hk : lo_ok lo i = true) :
    ∀ ls', lv_has ls' lo.length ((i, v) :: (lo_l lo).filter (fun q => !(q.1 == i) && (!(q.1 == i + 1) && !(q.1 + 1 == i && q.2.category == 2)))) → lo_ ls' ((lo.set (i + 1) none).set i (some v)) := by
  intro ls' h'
  refine ⟨by rw [List.length_set, List.length_set]; exact h'.1, h'.2.1, fun j w hj => ?_⟩
  rw [List.getElem?_set] at hj
  by_cases e : i = j
  · subst e
    rw [if_pos rfl] at hj
    split at hj
    · rw [← Option.some.inj (Option.some.inj hj)]
      exact h'.2.2 (i, v) List.mem_cons_self
    · cases hj
  · rw [if_neg e, List.getElem?_set] at hj
    by_cases e1 : i + 1 = j
    · rw [if_pos e1] at hj
      split at hj
      · cases hj
      · cases hj
    · rw [if_neg e1] at hj
      refine h'.2.2 (j, w) (List.mem_cons_of_mem _ (List.mem_filter.mpr ⟨lo_l_mem.mpr hj, ?_⟩))
      simp only [Bool.and_eq_true, Bool.not_eq_true', beq_eq_false_iff_ne, ne_eq, Bool.and_eq_false_iff]
      refine ⟨fun z => e z.symm, fun z => e1 z.symm, ?_⟩
      by_cases e2 : j + 1 = i
      · right
        subst e2
        simp only [lo_ok, hj] at hk
        simp only [beq_iff_eq] at hk
        rw [hk]; decide
      · left; exact e2
