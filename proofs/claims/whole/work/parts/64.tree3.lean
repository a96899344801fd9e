/-! The tree that was read: kinds, depths, parents. -/
theorem gE_app1 {L : List mt_E} {E : mt_E} {k : Int} (h0 : 0 ≤ k) (h : k < L.length) : gE (L ++ [E]) k = gE L k := by
  unfold gE
  rw [List.getD_eq_getElem?_getD, List.getD_eq_getElem?_getD, List.getElem?_append_left (by omega)]
theorem gE_app2 {L : List mt_E} {E : mt_E} : gE (L ++ [E]) L.length = E := by
  unfold gE
  rw [List.getD_eq_getElem?_getD, Int.toNat_natCast, List.getElem?_append_right (Nat.le_refl _), Nat.sub_self]
  rfl
theorem gE_bmp {L : List mt_E} {p k w : Int} (hw : w ≠ 6) (h0 : 0 ≤ k) (h : k < L.length) : (gE (bmpI L p) k).1 w = (gE L k).1 w := by
  unfold gE bmpI
  split
  · rfl
  · have hl : k.toNat < (bmp L p.toNat).length := by rw [bmp_len]; omega
    obtain ⟨D, a, b, c⟩ := bmp_get L p.toNat k.toNat _ (List.getElem?_eq_getElem hl)
    rw [List.getD_eq_getElem?_getD, List.getD_eq_getElem?_getD, a, List.getElem?_eq_getElem hl]
    show ((bmp L p.toNat)[k.toNat]).1 w = D.1 w
    rw [c w, if_neg (fun z => hw z.2)]
theorem tk_get {f : Int → Int} {L : List mt_E} {x : mt_R} {k w : Int} (hw : w ≠ 6) (h0 : 0 ≤ k) (h : k < L.length) : (gE (bmpI L x.2.2.2 ++ [mkE f x]) k).1 w = (gE L k).1 w := by
  rw [gE_app1 h0 (by rw [bmpI_len]; exact h), gE_bmp hw h0 h]
theorem tk_new {f : Int → Int} {L : List mt_E} {x : mt_R} : gE (bmpI L x.2.2.2 ++ [mkE f x]) L.length = mkE f x := by
  have := gE_app2 (L := bmpI L x.2.2.2) (E := mkE f x)
  rw [bmpI_len] at this
  exact this
def tE_ (L : List mt_E) (k : Int) : Prop := (0 ≤ (gE L k).1 0 ∧ (gE L k).1 0 ≤ 2) ∧ (0 ≤ (gE L k).1 4 ∧ (gE L k).1 4 ≤ 2) ∧ (-1 ≤ (gE L k).1 2 ∧ (gE L k).1 2 < k) ∧ (1 ≤ (gE L k).1 1 ∧ (gE L k).1 1 ≤ 4) ∧ (0 ≤ (gE L k).1 2 → (gE L k).1 1 = (gE L ((gE L k).1 2)).1 1 + 1 ∧ (gE L ((gE L k).1 2)).1 0 ≠ 0)
def tX_ (L : List mt_E) (x : mt_R) : Prop := -1 ≤ x.2.2.2 ∧ x.2.2.2 < L.length ∧ (1 ≤ x.2.2.1 ∧ x.2.2.1 ≤ 4) ∧ (0 ≤ x.2.2.2 → x.2.2.1 = (gE L x.2.2.2).1 1 + 1 ∧ (gE L x.2.2.2).1 0 ≠ 0)
def tL_ (L : List mt_E) : Prop := ∀ k : Int, 0 ≤ k → k < L.length → tE_ L k
theorem encO_b (o : Option (List Int)) : 0 ≤ encO_ o ∧ encO_ o ≤ 2 := by
  unfold encO_
  split
  · decide
  · unfold enc_
    split
    · decide
    · split
      · split
        · decide
        · split <;> decide
      · decide
theorem tk_len {f : Int → Int} {L : List mt_E} {x : mt_R} : (bmpI L x.2.2.2 ++ [mkE f x]).length = L.length + 1 := by rw [List.length_append, bmpI_len]; rfl
theorem tX_.keep {f : Int → Int} {L : List mt_E} {x y : mt_R} (h : tX_ L y) : tX_ (bmpI L x.2.2.2 ++ [mkE f x]) y := by
  obtain ⟨a, b, c, d⟩ := h
  refine ⟨a, by rw [tk_len]; omega, c, fun z => ?_⟩
  rw [tk_get (by decide) z b, tk_get (by decide) z b]
  exact d z
theorem tE_.keep {f : Int → Int} {L : List mt_E} {x : mt_R} {k : Int} (k0 : 0 ≤ k) (k1 : k < L.length) (h : tE_ L k) : tE_ (bmpI L x.2.2.2 ++ [mkE f x]) k := by
  obtain ⟨a, b, c, d, e⟩ := h
  unfold tE_
  rw [tk_get (by decide) k0 k1, tk_get (by decide) k0 k1, tk_get (by decide) k0 k1, tk_get (by decide) k0 k1]
  refine ⟨a, b, c, d, fun z => ?_⟩
  rw [tk_get (by decide) z (by omega), tk_get (by decide) z (by omega)]
  exact e z
theorem tE_new {f : Int → Int} {L : List mt_E} {x : mt_R} (h : tX_ L x) : tE_ (bmpI L x.2.2.2 ++ [mkE f x]) L.length := by
  obtain ⟨a, b, c, d⟩ := h
  have hKb := (kndO_b (fnd w_ctype (eF f x).1) x.2.2.1).1
  have hNb := encO_b (fnd w_cte (eF f x).1)
  unfold tE_
  rw [tk_new]
  refine ⟨?_, hNb, ⟨a, b⟩, c, fun z => ?_⟩
  · show 0 ≤ (kndO_ (fnd w_ctype (eF f x).1) x.2.2.1).1 ∧ (kndO_ (fnd w_ctype (eF f x).1) x.2.2.1).1 ≤ 2
    omega
  · have z' : 0 ≤ x.2.2.2 := z
    show x.2.2.1 = (gE (bmpI L x.2.2.2 ++ [mkE f x]) x.2.2.2).1 1 + 1 ∧ (gE (bmpI L x.2.2.2 ++ [mkE f x]) x.2.2.2).1 0 ≠ 0
    rw [tk_get (by decide) z' b, tk_get (by decide) z' b]
    exact d z'
theorem tX_ch {f : Int → Int} {L : List mt_E} {x y : mt_R} (h : tX_ L x) (hy : y ∈ chE f x L.length) : tX_ (bmpI L x.2.2.2 ++ [mkE f x]) y := by
  obtain ⟨a, b, c, d⟩ := h
  have hK : eK f x = kndO_ (fnd w_ctype (eF f x).1) x.2.2.1 := rfl
  have hd4 : (eK f x).1 ≠ 0 → x.2.2.1 ≠ 4 := fun z y => z (by rw [hK, y]; unfold kndO_; split; rfl; rw [if_pos rfl])
  have main : ∀ u v : Int, (eK f x).1 ≠ 0 → y = (u, v, x.2.2.1 + 1, (L.length : Int)) → tX_ (bmpI L x.2.2.2 ++ [mkE f x]) y := by
    intro u v hk hy
    subst hy
    have := hd4 hk
    refine ⟨by show (-1 : Int) ≤ L.length; omega, by rw [tk_len]; show (L.length : Int) < _; omega, ⟨by show 1 ≤ x.2.2.1 + 1; omega, by show x.2.2.1 + 1 ≤ 4; omega⟩, fun z => ?_⟩
    show x.2.2.1 + 1 = (gE (bmpI L x.2.2.2 ++ [mkE f x]) L.length).1 1 + 1 ∧ (gE (bmpI L x.2.2.2 ++ [mkE f x]) L.length).1 0 ≠ 0
    rw [tk_new]
    exact ⟨rfl, hk⟩
  unfold chE at hy
  by_cases k2 : (eK f x).1 = 2
  · rw [if_pos k2] at hy
    exact main _ _ (by omega) (List.mem_singleton.mp hy)
  · rw [if_neg k2] at hy
    by_cases k1 : (eK f x).1 = 1
    · rw [if_pos k1] at hy
      obtain ⟨q, -, hq⟩ := List.mem_map.mp hy
      exact main q.1 q.2 (by omega) hq.symm
    · rw [if_neg k1] at hy
      cases hy
theorem rdS_inv {f : Int → Int} : ∀ (n : Nat) (xs : List mt_R) (L : List mt_E), tL_ L → (∀ x ∈ xs, tX_ L x) → tL_ (rdS f n xs L) ∧ L.length ≤ (rdS f n xs L).length ∧ ∀ k w : Int, w ≠ 6 → 0 ≤ k → k < L.length → (gE (rdS f n xs L) k).1 w = (gE L k).1 w
  | 0, _, L, h, _ => ⟨h, Nat.le_refl _, fun _ _ _ _ _ => rfl⟩
  | _ + 1, [], L, h, _ => ⟨h, Nat.le_refl _, fun _ _ _ _ _ => rfl⟩
  | n + 1, x :: xs, L, h, hx => by
    show tL_ (rdS f n ((tk1 f L x).2 ++ xs) (tk1 f L x).1) ∧ L.length ≤ (rdS f n ((tk1 f L x).2 ++ xs) (tk1 f L x).1).length ∧ ∀ k w : Int, w ≠ 6 → 0 ≤ k → k < L.length → (gE (rdS f n ((tk1 f L x).2 ++ xs) (tk1 f L x).1) k).1 w = (gE L k).1 w
    by_cases h16 : L.length = 16
    · have e1 : tk1 f L x = (L, []) := if_pos h16
      rw [e1]
      exact rdS_inv n xs L h (fun y hy => hx y (List.mem_cons_of_mem _ hy))
    · have e1 : tk1 f L x = (bmpI L x.2.2.2 ++ [mkE f x], chE f x L.length) := if_neg h16
      rw [e1]
      have hx0 := hx x List.mem_cons_self
      obtain ⟨i1, i2, i3⟩ := rdS_inv (f := f) n (chE f x L.length ++ xs) (bmpI L x.2.2.2 ++ [mkE f x]) (fun k k0 k1 => by
        rw [tk_len] at k1
        by_cases kl : k < L.length
        · exact (h k k0 kl).keep k0 kl
        · have : k = L.length := by omega
          subst this
          exact tE_new hx0) (fun y hy => by
        rcases List.mem_append.mp hy with hy | hy
        · exact tX_ch hx0 hy
        · exact (hx y (List.mem_cons_of_mem _ hy)).keep)
      rw [tk_len] at i2
      refine ⟨i1, by show L.length ≤ (rdS f n (chE f x L.length ++ xs) (bmpI L x.2.2.2 ++ [mkE f x])).length; omega, fun k w hw k0 k1 => ?_⟩
      show (gE (rdS f n (chE f x L.length ++ xs) (bmpI L x.2.2.2 ++ [mkE f x])) k).1 w = _
      rw [i3 k w hw k0 (by rw [tk_len]; omega), tk_get hw k0 k1]
theorem rd0_inv (f : Int → Int) (n : Int) : tL_ (rd0 f n) ∧ 1 ≤ (rd0 f n).length ∧ (gE (rd0 f n) 0).1 1 = 1 := by
  have h0 : tX_ [] (0, n, 1, -1) := ⟨by show (-1 : Int) ≤ -1; decide, by show (-1 : Int) < 0; decide, ⟨by show (1 : Int) ≤ 1; decide, by show (1 : Int) ≤ 4; decide⟩, fun z => absurd z (by show ¬ (0 : Int) ≤ -1; decide)⟩
  have e1 : rd0 f n = rdS f 6499 (chE f (0, n, 1, -1) 0 ++ []) ([] ++ [mkE f (0, n, 1, -1)]) := rfl
  obtain ⟨i1, i2, i3⟩ := rdS_inv (f := f) 6499 (chE f (0, n, 1, -1) 0 ++ []) ([] ++ [mkE f (0, n, 1, -1)]) (fun k k0 k1 => by
    have : k = 0 := by have : k < 1 := k1; omega
    subst this
    exact tE_new (L := []) h0) (fun y hy => by
    rw [List.append_nil] at hy
    exact tX_ch (L := []) h0 hy)
  rw [e1]
  refine ⟨i1, i2, ?_⟩
  rw [i3 0 1 (by decide) (by decide) (by show (0 : Int) < ((1 : Nat) : Int); decide)]
  rfl
theorem tL_.kb {L : List mt_E} (h : tL_ L) : kb_ L := fun e e0 e1 => ⟨(h e e0 e1).1, (h e e0 e1).2.1, (h e e0 e1).2.2.1⟩
theorem tL_.ti {L : List mt_E} (h : tL_ L) : TI_ L := fun e e0 e1 => ⟨(h e e0 e1).2.2.2.1, (h e e0 e1).2.2.2.2⟩
