/-! Pure facts: what every entity of a read tree keeps; bytes of what is written. -/
theorem bmp_all {Pr : mt_E → Prop} (hb : ∀ E : mt_E, Pr E → Pr (fun w => if w = 6 then E.1 6 + 1 else E.1 w, E.2)) : ∀ (L : List mt_E) (n : Nat), (∀ E ∈ L, Pr E) → ∀ E ∈ bmp L n, Pr E
  | [], _, h => h
  | E :: t, 0, h => fun D hD => by
    rcases List.mem_cons.mp hD with rfl | hD
    · exact hb E (h E List.mem_cons_self)
    · exact h D (List.mem_cons_of_mem _ hD)
  | E :: t, n + 1, h => fun D hD => by
    rcases List.mem_cons.mp hD with rfl | hD
    · exact h D List.mem_cons_self
    · exact bmp_all hb t n (fun F hF => h F (List.mem_cons_of_mem _ hF)) D hD
theorem rdS_all {Pr : mt_E → Prop} {f : Int → Int} (hm : ∀ x : mt_R, Pr (mkE f x)) (hb : ∀ E : mt_E, Pr E → Pr (fun w => if w = 6 then E.1 6 + 1 else E.1 w, E.2)) : ∀ (n : Nat) (xs : List mt_R) (L : List mt_E), (∀ E ∈ L, Pr E) → ∀ E ∈ rdS f n xs L, Pr E
  | 0, _, L, h => h
  | _ + 1, [], L, h => h
  | n + 1, x :: xs, L, h => by
    show ∀ E ∈ rdS f n ((tk1 f L x).2 ++ xs) (tk1 f L x).1, Pr E
    refine rdS_all hm hb n _ _ ?_
    unfold tk1
    split
    · exact h
    · intro E hE
      rcases List.mem_append.mp hE with hE | hE
      · unfold bmpI at hE
        split at hE
        · exact h E hE
        · exact bmp_all hb L _ h E hE
      · rw [List.mem_singleton.mp hE]; exact hm x
theorem gE_of {Pr : mt_E → Prop} {L : List mt_E} (h : ∀ E ∈ L, Pr E) (h0 : Pr (fun _ => 0, [], [], [])) (e : Int) : Pr (gE L e) := by
  unfold gE
  rw [List.getD_eq_getElem?_getD]
  cases hq : L[e.toNat]? with
  | none => exact h0
  | some E => exact h E (List.mem_of_getElem? hq)
/-- only a multipart has a boundary -/
def nbd_ (E : mt_E) : Prop := E.1 0 ≠ 1 → E.2.2.2 = []
theorem rd0_nb (f : Int → Int) (n : Int) : ∀ E ∈ rd0 f n, nbd_ E :=
  rdS_all (fun x => (kndO_b (fnd w_ctype (eF f x).1) x.2.2.1).2.2) (fun E h => h) _ _ _ (fun _ h => absurd h List.not_mem_nil)
/-- bytes -/
def B1 (A : List Int) : Prop := ∀ c ∈ A, 0 ≤ c ∧ c ≤ 255
theorem B1.nil : B1 [] := fun _ h => absurd h List.not_mem_nil
theorem B1.cons {c : Int} {A : List Int} (h : 0 ≤ c ∧ c ≤ 255) (hA : B1 A) : B1 (c :: A) := List.forall_mem_cons.mpr ⟨h, hA⟩
theorem B1.app {A B : List Int} (hA : B1 A) (hB : B1 B) : B1 (A ++ B) := List.forall_mem_append.mpr ⟨hA, hB⟩
theorem B1.nl : B1 [13, 10] := .cons (by decide) (.cons (by decide) .nil)
def Eb (E : mt_E) : Prop := (∀ q ∈ E.2.1, B1 q.1 ∧ B1 q.2) ∧ B1 E.2.2.1 ∧ B1 E.2.2.2
theorem hF_by : ∀ (F : List (List Int × List Int)), (∀ q ∈ F, B1 q.1 ∧ B1 q.2) → B1 (hF_ F)
  | [], _ => .nil
  | q :: t, h => by
    have hq := h q List.mem_cons_self
    show B1 (q.1 ++ [58] ++ [32] ++ q.2 ++ [13, 10] ++ hF_ t)
    exact ((((hq.1.app (.cons (by decide) .nil)).app (.cons (by decide) .nil)).app hq.2).app .nl).app (hF_by t (fun p hp => h p (List.mem_cons_of_mem _ hp)))
theorem tl_by {v : Int} (h0 : 0 ≤ v) (h1 : v < 64) : 0 ≤ tl_ v ∧ tl_ v ≤ 255 := by
  unfold tl_
  split
  · omega
  · split
    · omega
    · split
      · omega
      · split <;> decide
theorem dg_by {v : Int} (h0 : 0 ≤ v) (h1 : v < 16) : 0 ≤ dg_ v ∧ dg_ v ≤ 255 := by
  unfold dg_
  split <;> omega
theorem nl_by (n : Int) : B1 (nl24 n) := by unfold nl24; split; exact .nl; exact .nil
theorem en_by (n : Int) : B1 (en24 n) := by unfold en24; split; exact .nl; exact .nil
theorem b6_by : ∀ (A : List Int) (n : Int), B1 A → B1 (b6_ n A)
  | a :: b :: c :: t, n, h => by
    have ha := h a List.mem_cons_self
    have hb := h b (List.mem_cons_of_mem _ List.mem_cons_self)
    have hc := h c (List.mem_cons_of_mem _ (List.mem_cons_of_mem _ List.mem_cons_self))
    show B1 ([tl_ (a / 4), tl_ (a % 4 * 16 + b / 16), tl_ (b % 16 * 4 + c / 64), tl_ (c % 64)] ++ nl24 (n + 4) ++ b6_ (n + 4) t)
    exact ((B1.cons (tl_by (by omega) (by omega)) (.cons (tl_by (by omega) (by omega)) (.cons (tl_by (by omega) (by omega)) (.cons (tl_by (by omega) (by omega)) .nil)))).app (nl_by _)).app (b6_by t (n + 4) (fun x hx => h x (List.mem_cons_of_mem _ (List.mem_cons_of_mem _ (List.mem_cons_of_mem _ hx)))))
  | [a, b], n, h => by
    have ha := h a List.mem_cons_self
    have hb := h b (List.mem_cons_of_mem _ List.mem_cons_self)
    show B1 ([tl_ (a / 4), tl_ (a % 4 * 16 + b / 16), tl_ (b % 16 * 4 + 0 / 64), 61] ++ nl24 (n + 4) ++ en24 (n + 4))
    exact ((B1.cons (tl_by (by omega) (by omega)) (.cons (tl_by (by omega) (by omega)) (.cons (tl_by (by omega) (by omega)) (.cons (by decide) .nil)))).app (nl_by _)).app (en_by _)
  | [a], n, h => by
    have ha := h a List.mem_cons_self
    show B1 ([tl_ (a / 4), tl_ (a % 4 * 16 + 0 / 16), 61, 61] ++ nl24 (n + 4) ++ en24 (n + 4))
    exact ((B1.cons (tl_by (by omega) (by omega)) (.cons (tl_by (by omega) (by omega)) (.cons (by decide) (.cons (by decide) .nil)))).app (nl_by _)).app (en_by _)
  | [], n, _ => en_by n
theorem it_by {c : Int} {r : List Int} {col : Int} (hc : 0 ≤ c ∧ c ≤ 255) : B1 (it_ c r col).1 := by
  have hp : B1 (cp_ c r col) := by
    unfold cp_
    by_cases hw : 30 < col + (if pnB c r col then 1 else 3)
    · rw [if_pos hw]; exact .cons (by decide) .nl
    · rw [if_neg hw]; exact .nil
  unfold it_
  split
  · exact hp.app (.cons hc .nil)
  · exact hp.app (.cons (by decide) (.cons (dg_by (by omega) (by omega)) (.cons (dg_by (by omega) (by omega)) .nil)))
theorem qe_by : ∀ (n : Nat) (A : List Int) (col : Int), A.length ≤ n → B1 A → B1 (qe_ col A)
  | _, [], _, _, _ => .nil
  | _, [c], col, _, h => it_by (h c List.mem_cons_self)
  | 0, c :: d :: t, col, hn, h => by simp at hn
  | n + 1, c :: d :: t, col, hn, h => by
    have hc := h c List.mem_cons_self
    have ht : B1 t := fun x hx => h x (List.mem_cons_of_mem _ (List.mem_cons_of_mem _ hx))
    have hd : B1 (d :: t) := fun x hx => h x (List.mem_cons_of_mem _ hx)
    simp only [List.length_cons] at hn
    show B1 (if c = 13 ∧ d = 10 then [13, 10] ++ qe_ 0 t else (it_ c (d :: t) col).1 ++ qe_ (it_ c (d :: t) col).2 (d :: t))
    split
    · exact B1.nl.app (qe_by n t 0 (by omega) ht)
    · exact (it_by hc).app (qe_by n (d :: t) _ (by simp only [List.length_cons]; omega) hd)
theorem hd_by {E : mt_E} (h : Eb E) : B1 (hd_ E) := by
  unfold hd_ ct_
  refine ((hF_by _ h.1).app .nl).app ?_
  split
  · split
    · exact b6_by _ _ h.2.1
    · split
      · exact qe_by _ _ _ (Nat.le_refl _) h.2.1
      · exact h.2.1
  · exact .nil
theorem dl_by {E : mt_E} (h : Eb E) (z : Int) : B1 (dl_ E z) := by
  unfold dl_
  split
  · unfold mk9
    refine (((B1.cons (by decide) .nil).app (.cons (by decide) .nil)).app h.2.2 |>.app ?_).app .nl
    split
    · exact (B1.cons (by decide) .nil).app (.cons (by decide) .nil)
    · exact .nil
  · exact .nil
theorem wP_by {g : Int → List Int} {L : List mt_E} (hg : ∀ k, B1 (g k)) (hL : ∀ e, Eb (gE L e)) (e : Int) : ∀ (j : Nat) (k : Int), B1 (wP_ g L e j k)
  | 0, _ => dl_by (hL e) 1
  | j + 1, k => by
    show B1 (if (gE L k).1 2 = e then dl_ (gE L e) 0 ++ g k ++ nlE (gE L e) ++ wP_ g L e j (k + 1) else wP_ g L e j (k + 1))
    split
    · refine (((dl_by (hL e) 0).app (hg k)).app ?_).app (wP_by hg hL e j (k + 1))
      unfold nlE
      split
      · exact .nl
      · exact .nil
    · exact wP_by hg hL e j (k + 1)
theorem wE_by {L : List mt_E} (hL : ∀ e, Eb (gE L e)) : ∀ (j : Nat) (e : Int), B1 (wE_ L j e)
  | 0, _ => .nil
  | d + 1, e => (hd_by (hL e)).app (wP_by (wE_by hL d) hL e _ _)
theorem slc_B1 {f : Int → Int} {N p : Int} {A : List Int} (hb : by_ f 0 N) (h0 : 0 ≤ p) (h1 : p + A.length ≤ N) (h : slc f p (p + A.length) = A) : B1 A := by
  have q := slc_by (f := f) (p := p) (e := p + A.length) (fun i i0 i1 => hb i (by omega) (by omega))
  rw [h] at q
  exact q
theorem RC.eb {m : mt_M} {L : List mt_E} (hC : RC m L) (e : Int) : Eb (gE L e) := by
  refine gE_of (Pr := Eb) (fun E hE => ?_) ⟨fun _ h => absurd h List.not_mem_nil, .nil, .nil⟩ e
  obtain ⟨N, hN⟩ := List.getElem?_of_mem hE
  obtain ⟨c1, c2, c3, b3, b4, b5, b6, b7⟩ := hC
  obtain ⟨-, hG, ⟨k1, k2, k3, k4⟩, j1, j2, j3, j4⟩ := c3 N E hN
  refine ⟨fun q hq => ?_, slc_B1 b5.2.2.2 k1 k3 k4, slc_B1 b6.2.2.2 j1 j3 j4⟩
  obtain ⟨i, hi⟩ := List.getElem?_of_mem hq
  obtain ⟨⟨p1, p2, p3, p4⟩, r1, r2, r3, r4⟩ := hG.2.2 i q hi
  exact ⟨slc_B1 b3.2.2.2 p1 p3 p4, slc_B1 b4.2.2.2 r1 r3 r4⟩
