/-! The tree read part by part is the tree read over a pile. -/
def rdT (f : Int → Int) : Nat → mt_R → List mt_E → List mt_E
  | 0, _, L => L
  | j + 1, x, L => if L.length = 16 then L else (chE f x L.length).foldl (fun M y => rdT f j y M) (bmpI L x.2.2.2 ++ [mkE f x])
def rdF (f : Int → Int) (j : Nat) (ys : List mt_R) (M : List mt_E) : List mt_E := ys.foldl (fun M y => rdT f j y M) M
theorem rdF_nil {f : Int → Int} {j : Nat} {M : List mt_E} : rdF f j [] M = M := rfl
theorem rdF_cons {f : Int → Int} {j : Nat} {y : mt_R} {ys : List mt_R} {M : List mt_E} : rdF f j (y :: ys) M = rdF f j ys (rdT f j y M) := rfl
theorem rdF_app {f : Int → Int} {j : Nat} {ys zs : List mt_R} {M : List mt_E} : rdF f j (ys ++ zs) M = rdF f j zs (rdF f j ys M) := List.foldl_append ..
theorem rdT_16 {f : Int → Int} {j : Nat} {x : mt_R} {L : List mt_E} (h : L.length = 16) : rdT f (j + 1) x L = L := if_pos h
theorem rdT_go {f : Int → Int} {j : Nat} {x : mt_R} {L : List mt_E} (h : L.length ≠ 16) : rdT f (j + 1) x L = rdF f j (chE f x L.length) (bmpI L x.2.2.2 ++ [mkE f x]) := if_neg h
/-- what is there stays, but for the number of parts -/
def kp_ (L L' : List mt_E) : Prop := L.length ≤ L'.length ∧ ∀ (k : Nat) (E : mt_E), L[k]? = some E → ∃ E', L'[k]? = some E' ∧ E'.2 = E.2 ∧ ∀ w : Int, w ≠ 6 → E'.1 w = E.1 w
theorem kp_.rf {L : List mt_E} : kp_ L L := ⟨Nat.le_refl _, fun _ E h => ⟨E, h, rfl, fun _ _ => rfl⟩⟩
theorem kp_.trans {A B C : List mt_E} (h1 : kp_ A B) (h2 : kp_ B C) : kp_ A C := ⟨Nat.le_trans h1.1 h2.1, fun k E h => by
  obtain ⟨E1, a1, a2, a3⟩ := h1.2 k E h
  obtain ⟨E2, b1, b2, b3⟩ := h2.2 k E1 a1
  exact ⟨E2, b1, b2.trans a2, fun w hw => (b3 w hw).trans (a3 w hw)⟩⟩
theorem bmp_get2 : ∀ (L : List mt_E) (n i : Nat) (E : mt_E), L[i]? = some E → ∃ E', (bmp L n)[i]? = some E' ∧ E'.2 = E.2 ∧ ∀ w : Int, w ≠ 6 → E'.1 w = E.1 w
  | [], n, i, E, h => by simp at h
  | D :: t, 0, 0, E, h => by
    simp only [List.getElem?_cons_zero, Option.some.injEq] at h
    subst h
    exact ⟨_, rfl, rfl, fun w hw => if_neg hw⟩
  | D :: t, 0, i + 1, E, h => ⟨E, by simpa [bmp] using h, rfl, fun _ _ => rfl⟩
  | D :: t, n + 1, 0, E, h => ⟨E, by simpa [bmp] using h, rfl, fun _ _ => rfl⟩
  | D :: t, n + 1, i + 1, E, h => by
    simp only [List.getElem?_cons_succ] at h
    obtain ⟨E', h1, h2⟩ := bmp_get2 t n i E h
    exact ⟨E', by simpa [bmp] using h1, h2⟩
theorem kp_.new {L : List mt_E} {p : Int} {E : mt_E} : kp_ L (bmpI L p ++ [E]) := by
  refine ⟨by rw [List.length_append, bmpI_len]; exact Nat.le_add_right _ _, fun k D h => ?_⟩
  have hk := (List.getElem?_eq_some_iff.mp h).1
  rw [List.getElem?_append_left (by rw [bmpI_len]; exact hk)]
  unfold bmpI
  split
  · exact ⟨D, h, rfl, fun _ _ => rfl⟩
  · exact bmp_get2 L _ k D h
theorem rdT_kp {f : Int → Int} : ∀ (j : Nat) (x : mt_R) (L : List mt_E), kp_ L (rdT f j x L)
  | 0, _, _ => kp_.rf
  | j + 1, x, L => by
    by_cases h : L.length = 16
    · rw [rdT_16 h]; exact kp_.rf
    · rw [rdT_go h]
      have hF : ∀ (ys : List mt_R) (M : List mt_E), kp_ M (rdF f j ys M) := by
        intro ys
        induction ys with
        | nil => intro M; exact kp_.rf
        | cons y ys ih => intro M; rw [rdF_cons]; exact (rdT_kp j y M).trans (ih _)
      exact kp_.new.trans (hF _ _)
theorem rdF_kp {f : Int → Int} {j : Nat} : ∀ (ys : List mt_R) (M : List mt_E), kp_ M (rdF f j ys M)
  | [], _ => kp_.rf
  | y :: ys, M => by rw [rdF_cons]; exact (rdT_kp j y M).trans (rdF_kp ys _)
theorem rdT_le {f : Int → Int} : ∀ (j : Nat) (x : mt_R) (L : List mt_E), L.length ≤ 16 → (rdT f j x L).length ≤ 16
  | 0, _, _, h => h
  | j + 1, x, L, h => by
    by_cases h16 : L.length = 16
    · rw [rdT_16 h16]; exact h
    · rw [rdT_go h16]
      have hF : ∀ (ys : List mt_R) (M : List mt_E), M.length ≤ 16 → (rdF f j ys M).length ≤ 16 := by
        intro ys
        induction ys with
        | nil => intro M hM; exact hM
        | cons y ys ih => intro M hM; rw [rdF_cons]; exact ih _ (rdT_le j y M hM)
      exact hF _ _ (by rw [tk_len]; omega)
theorem chR.len {s : Int} : ∀ {PL : List (Int × Int)} {lo : Int}, chR lo s PL → lo ≤ s + 3 → 3 * (PL.length : Int) ≤ s + 3 - lo
  | [], _, _, h => by simp; omega
  | q :: t, lo, h, h1 => by
    have := chR.len h.2.2.2 (by have := h.2.2.1; omega)
    have := h.1
    have := h.2.1
    simp only [List.length_cons]
    omega
theorem chR.mem {s : Int} : ∀ {PL : List (Int × Int)} {lo : Int}, chR lo s PL → ∀ q ∈ PL, lo ≤ q.1 ∧ q.1 ≤ q.2 ∧ q.2 ≤ s
  | [], _, _, q, hq => by cases hq
  | p :: t, lo, h, q, hq => by
    rcases List.mem_cons.mp hq with rfl | hq
    · exact ⟨h.1, h.2.1, h.2.2.1⟩
    · have := chR.mem h.2.2.2 q hq
      have := h.1
      have := h.2.1
      omega
/-- the children of a range -/
theorem chE_all {f : Int → Int} {x : mt_R} {i : Int} (h0 : 0 ≤ x.1) (h1 : x.1 ≤ x.2.1) (h2 : x.2.1 ≤ 320) : (chE f x i).length ≤ 400 ∧ (∀ y ∈ chE f x i, 0 ≤ y.1 ∧ y.1 ≤ y.2.1 ∧ y.2.1 ≤ 320 ∧ y.2.2.1 = x.2.2.1 + 1) ∧ (x.2.2.1 = 4 → chE f x i = []) := by
  have hF := flds_inv (f := f) h1
  have hKb := kndO_b (fnd w_ctype (eF f x).1) x.2.2.1
  have hK : eK f x = kndO_ (fnd w_ctype (eF f x).1) x.2.2.1 := rfl
  rw [← hK] at hKb
  have hd4 : (eK f x).1 ≠ 0 → x.2.2.1 ≠ 4 := fun z y => z (by rw [hK, y]; unfold kndO_; split; rfl; rw [if_pos rfl])
  have hF1 : x.1 ≤ (eF f x).2 := hF.1
  have hF2 : (eF f x).2 ≤ x.2.1 := hF.2.1
  rcases hKb.1 with hk | hk | hk
  · have e1 : chE f x i = [] := by unfold chE; rw [if_neg (by omega), if_neg (by omega)]
    rw [e1]
    exact ⟨by decide, fun y hy => (by cases hy), fun _ => rfl⟩
  · have e1 : chE f x i = (parts_ f (eF f x).2 x.2.1 (eK f x).2).map (fun q => (q.1, q.2, x.2.2.1 + 1, i)) := by unfold chE; rw [if_neg (by omega), if_pos hk]
    have hb := of_decide_eq_true (hKb.2.1 hk)
    have hc : chR (eF f x).2 x.2.1 (parts_ f (eF f x).2 x.2.1 (eK f x).2) := pts_ch (by omega) _ _ _ _ _ hF2 (Nat.le_refl _) (Int.le_refl _) (fun b hb => by cases hb) (fun _ => Int.le_refl _)
    rw [e1]
    refine ⟨?_, fun y hy => ?_, fun z => absurd z (hd4 (by omega))⟩
    · rw [List.length_map]
      have := hc.len (by omega)
      omega
    · obtain ⟨q, hq, rfl⟩ := List.mem_map.mp hy
      have := hc.mem q hq
      exact ⟨by show 0 ≤ q.1; omega, by show q.1 ≤ q.2; omega, by show q.2 ≤ 320; omega, rfl⟩
  · have e1 : chE f x i = [((eF f x).2, x.2.1, x.2.2.1 + 1, i)] := by unfold chE; rw [if_pos hk]
    rw [e1]
    refine ⟨by show 1 ≤ 400; decide, fun y hy => ?_, fun z => absurd z (hd4 (by omega))⟩
    rw [List.mem_singleton.mp hy]
    exact ⟨by show 0 ≤ (eF f x).2; omega, hF2, h2, rfl⟩
theorem rdS_T {f : Int → Int} : ∀ (j : Nat) (x : mt_R) (L : List mt_E), x.2.2.1 = 4 - j → 0 ≤ x.1 → x.1 ≤ x.2.1 → x.2.1 ≤ 320 → ∃ c : Nat, (∀ (n : Nat) (xs : List mt_R), rdS f (c + n) (x :: xs) L = rdS f n xs (rdT f (j + 1) x L)) ∧ c + 400 * L.length ≤ 1 + 400 * (rdT f (j + 1) x L).length := by
  intro j
  induction j with
  | zero =>
    intro x L hd h0 h1 h2
    by_cases h : L.length = 16
    · refine ⟨1, fun n xs => ?_, by rw [rdT_16 h]; omega⟩
      rw [rdT_16 h, Nat.add_comm]
      show rdS f n ((tk1 f L x).2 ++ xs) (tk1 f L x).1 = _
      rw [show tk1 f L x = (L, []) from if_pos h]; rfl
    · have he := (chE_all (f := f) (i := L.length) h0 h1 h2).2.2 (by rw [hd]; decide)
      have e9 : rdT f 1 x L = bmpI L x.2.2.2 ++ [mkE f x] := by rw [rdT_go h, he]; rfl
      refine ⟨1, fun n xs => ?_, by rw [e9, tk_len]; omega⟩
      rw [e9, Nat.add_comm]
      show rdS f n ((tk1 f L x).2 ++ xs) (tk1 f L x).1 = _
      rw [show tk1 f L x = (bmpI L x.2.2.2 ++ [mkE f x], chE f x L.length) from if_neg h, he]; rfl
  | succ j ih =>
    intro x L hd h0 h1 h2
    by_cases h : L.length = 16
    · refine ⟨1, fun n xs => ?_, by rw [rdT_16 h]; omega⟩
      rw [rdT_16 h, Nat.add_comm]
      show rdS f n ((tk1 f L x).2 ++ xs) (tk1 f L x).1 = _
      rw [show tk1 f L x = (L, []) from if_pos h]; rfl
    · obtain ⟨hl, hy, -⟩ := chE_all (f := f) (i := L.length) h0 h1 h2
      have hF : ∀ (ys : List mt_R) (M : List mt_E), (∀ y ∈ ys, 0 ≤ y.1 ∧ y.1 ≤ y.2.1 ∧ y.2.1 ≤ 320 ∧ y.2.2.1 = x.2.2.1 + 1) → ∃ c : Nat, (∀ (n : Nat) (xs : List mt_R), rdS f (c + n) (ys ++ xs) M = rdS f n xs (rdF f (j + 1) ys M)) ∧ c + 400 * M.length ≤ ys.length + 400 * (rdF f (j + 1) ys M).length := by
        intro ys
        induction ys with
        | nil => intro M _; exact ⟨0, fun n xs => by rw [Nat.zero_add]; rfl, by show 0 + 400 * M.length ≤ 0 + 400 * M.length; omega⟩
        | cons y ys ihy =>
          intro M hM
          obtain ⟨y0, y1, y2, y3⟩ := hM y List.mem_cons_self
          obtain ⟨c1, a1, a2⟩ := ih y M (by rw [y3, hd]; omega) y0 y1 y2
          obtain ⟨c2, b1, b2⟩ := ihy (rdT f (j + 1) y M) (fun z hz => hM z (List.mem_cons_of_mem _ hz))
          refine ⟨c1 + c2, fun n xs => ?_, ?_⟩
          · rw [rdF_cons, ← b1 n xs, ← a1 (c2 + n) (ys ++ xs), Nat.add_assoc]; rfl
          · rw [rdF_cons, List.length_cons]; omega
      obtain ⟨c, a1, a2⟩ := hF (chE f x L.length) (bmpI L x.2.2.2 ++ [mkE f x]) hy
      rw [tk_len] at a2
      refine ⟨1 + c, fun n xs => ?_, by rw [rdT_go h]; omega⟩
      rw [rdT_go h, ← a1 n xs, show 1 + c + n = (c + n) + 1 by omega]
      show rdS f (c + n) ((tk1 f L x).2 ++ xs) (tk1 f L x).1 = _
      rw [show tk1 f L x = (bmpI L x.2.2.2 ++ [mkE f x], chE f x L.length) from if_neg h]
theorem rd0_T {f : Int → Int} {n : Int} (h0 : 0 ≤ n) (h1 : n ≤ 320) : rd0 f n = rdT f 4 (0, n, 1, -1) [] := by
  obtain ⟨c, a1, a2⟩ := rdS_T (f := f) 3 (0, n, 1, -1) [] (by show (1 : Int) = 4 - ((3 : Nat) : Int); decide) (Int.le_refl _) h0 h1
  have hl := rdT_le (f := f) 4 (0, n, 1, -1) [] (by decide)
  have hc : c ≤ 6500 := by
    have : c + 400 * 0 ≤ 1 + 400 * (rdT f 4 (0, n, 1, -1) []).length := a2
    omega
  have := a1 (6500 - c) []
  rw [show c + (6500 - c) = 6500 by omega] at this
  show rdS f 6500 [(0, n, 1, -1)] [] = _
  rw [this]
  generalize 6500 - c = k
  cases k <;> rfl
