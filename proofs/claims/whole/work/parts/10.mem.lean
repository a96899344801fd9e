/-! The memory as a function; slices of a row as lists. -/
theorem st_at (mem : mt_M) (r : Nat) (z v : Int) (r' : Nat) (z' : Int) : st_ mem r z v r' z' = if r' = r ∧ z' = z then v else mem r' z' := by
  unfold st_
  by_cases h : r' = r
  · subst h
    by_cases h2 : z' = z
    · simp [h2]
    · simp [h2]
  · simp [h]
theorem st_same {mem : mt_M} {r : Nat} {z v : Int} : st_ mem r z v r z = v := by simp [st_at]
theorem st_row {mem : mt_M} {r r' : Nat} {z v : Int} (h : r' ≠ r) : st_ mem r z v r' = mem r' := by funext z'; simp [st_at, h]
theorem st_ne {mem : mt_M} {r r' : Nat} {z z' v : Int} (h : r' ≠ r ∨ z' ≠ z) : st_ mem r z v r' z' = mem r' z' := by
  rw [st_at, if_neg]; rintro ⟨h1, h2⟩; rcases h with h | h <;> exact h (by assumption)
theorem st_id {mem : mt_M} {r : Nat} {z : Int} : st_ mem r z (mem r z) = mem := by
  funext r' z'
  rw [st_at]
  split
  · rename_i h; rw [h.1, h.2]
  · rfl
theorem st_st {mem : mt_M} {r : Nat} {z v w : Int} : st_ (st_ mem r z v) r z w = st_ mem r z w := by
  funext r' z'
  simp only [st_at]
  split <;> simp_all
theorem st_comm {mem : mt_M} {r r2 : Nat} {z z2 v w : Int} (h : r ≠ r2 ∨ z ≠ z2) : st_ (st_ mem r z v) r2 z2 w = st_ (st_ mem r2 z2 w) r z v := by
  funext r' z'
  simp only [st_at]
  by_cases h1 : r' = r2 ∧ z' = z2
  · by_cases h2 : r' = r ∧ z' = z
    · obtain ⟨a, b⟩ := h1; obtain ⟨c, d⟩ := h2; subst a b; rcases h with h | h
      · exact absurd c.symm h
      · exact absurd d.symm h
    · simp [h1, h2]
      intro a b; exact absurd ⟨h1.1.trans a, h1.2.trans b⟩ h2
  · by_cases h2 : r' = r ∧ z' = z
    · simp [h1, h2]
      intro a b; exact absurd ⟨h2.1.trans a, h2.2.trans b⟩ h1
    · simp [h1, h2]
/-- the n numbers of a row from p on -/
def sl (f : Int → Int) : Int → Nat → List Int
  | _, 0 => []
  | p, n + 1 => f p :: sl f (p + 1) n
/-- .. from p up to e -/
def slc (f : Int → Int) (p e : Int) : List Int := sl f p (e - p).toNat
theorem sl_len (f : Int → Int) : ∀ (n : Nat) (p : Int), (sl f p n).length = n
  | 0, _ => rfl
  | n + 1, p => by simp [sl, sl_len f n]
theorem sl_app (f : Int → Int) : ∀ (n m : Nat) (p : Int), sl f p (n + m) = sl f p n ++ sl f (p + n) m
  | 0, m, p => by simp [sl]
  | n + 1, m, p => by
    rw [Nat.succ_add]
    simp only [sl, List.cons_append]
    rw [sl_app f n m (p + 1)]
    congr 3
    omega
theorem sl_ext {f g : Int → Int} : ∀ (n : Nat) (p : Int), (∀ i : Int, p ≤ i → i < p + n → f i = g i) → sl f p n = sl g p n
  | 0, _, _ => rfl
  | n + 1, p, h => by
    simp only [sl]
    rw [h p (by omega) (by omega), sl_ext n (p + 1) (fun i h1 h2 => h i (by omega) (by omega))]
theorem sl_get {f : Int → Int} : ∀ (n : Nat) (p : Int) (i : Nat), i < n → (sl f p n)[i]? = some (f (p + i))
  | 0, _, _, h => by omega
  | n + 1, p, 0, _ => by simp [sl]
  | n + 1, p, i + 1, h => by
    simp only [sl, List.getElem?_cons_succ]
    rw [sl_get n (p + 1) i (by omega)]
    congr 2
    omega
theorem slc_nil {f : Int → Int} {p e : Int} (h : e ≤ p) : slc f p e = [] := by
  unfold slc; rw [show (e - p).toNat = 0 by omega]; rfl
theorem slc_cons {f : Int → Int} {p e : Int} (h : p < e) : slc f p e = f p :: slc f (p + 1) e := by
  unfold slc; rw [show (e - p).toNat = (e - (p + 1)).toNat + 1 by omega]; rfl
theorem slc_len {f : Int → Int} {p e : Int} : (slc f p e).length = (e - p).toNat := sl_len _ _ _
theorem slc_lenI {f : Int → Int} {p e : Int} (h : p ≤ e) : ((slc f p e).length : Int) = e - p := by rw [slc_len]; omega
theorem slc_app {f : Int → Int} {p q e : Int} (h1 : p ≤ q) (h2 : q ≤ e) : slc f p e = slc f p q ++ slc f q e := by
  unfold slc
  rw [show (e - p).toNat = (q - p).toNat + (e - q).toNat by omega, sl_app]
  congr 2
  omega
theorem slc_snoc {f : Int → Int} {p e : Int} (h : p ≤ e) : slc f p (e + 1) = slc f p e ++ [f e] := by
  rw [slc_app h (by omega), slc_cons (show e < e + 1 by omega), slc_nil (Int.le_refl _)]
theorem slc_ext {f g : Int → Int} {p e : Int} (h : ∀ i : Int, p ≤ i → i < e → f i = g i) : slc f p e = slc g p e := by
  unfold slc
  exact sl_ext _ _ (fun i h1 h2 => h i h1 (by omega))
theorem slc_get {f : Int → Int} {p e i : Int} (h0 : 0 ≤ i) (h1 : i < e - p) : (slc f p e)[i.toNat]? = some (f (p + i)) := by
  unfold slc
  rw [sl_get _ _ _ (by omega)]
  congr 2
  omega
theorem slc_inj {f g : Int → Int} {p q e s : Int} (h : slc f p e = slc g q s) {i : Int} (h0 : 0 ≤ i) (h1 : i < e - p) : f (p + i) = g (q + i) := by
  have hl := congrArg List.length h
  rw [slc_len, slc_len] at hl
  have a := slc_get (f := f) (p := p) (e := e) h0 h1
  have b := slc_get (f := g) (p := q) (e := s) h0 (by omega)
  rw [h, b] at a
  exact (Option.some.inj a).symm
