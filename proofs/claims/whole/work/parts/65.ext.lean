/-! What is read depends on the message's bytes alone. -/
def agr (f g : Int → Int) (a b : Int) : Prop := ∀ i : Int, a ≤ i → i < b → f i = g i
theorem agr.sub {f g : Int → Int} {a b a' b' : Int} (h : agr f g a b) (h1 : a ≤ a') (h2 : b' ≤ b) : agr f g a' b' := fun i x y => h i (by omega) (by omega)
theorem le_ext {f g : Int → Int} {e : Int} : ∀ (n : Nat) (q : Int), (e - q).toNat = n → agr f g q e → le_ f e n q = le_ g e n q
  | 0, _, _, _ => rfl
  | n + 1, q, hn, h => by
    show (if f q = 10 then q + 1 else le_ f e n (q + 1)) = (if g q = 10 then q + 1 else le_ g e n (q + 1))
    rw [h q (Int.le_refl _) (by omega), le_ext n (q + 1) (by omega) (h.sub (by omega) (Int.le_refl _))]
theorem lineEnd_ext {f g : Int → Int} {p e : Int} (h : agr f g p e) : lineEnd_ f p e = lineEnd_ g p e := le_ext _ p rfl h
theorem textEnd_ext {f g : Int → Int} {p e : Int} (hp : p ≤ e) (h : agr f g p e) : textEnd_ f p e = textEnd_ g p e := by
  have hb := lineEnd_b (f := g) (e := e) _ p rfl hp
  unfold textEnd_
  rw [lineEnd_ext h]
  generalize lineEnd_ g p e = l at *
  by_cases h1 : l = p
  · rw [if_pos (Or.inl h1), if_pos (Or.inl h1)]
  · rw [h (l - 1) (by omega) (by omega)]
    by_cases h2 : p < l - 1
    · rw [h (l - 2) (by omega) (by omega)]
    · rw [if_neg (fun z : p < l - 1 ∧ f (l - 2) = 13 => h2 z.1), if_neg (fun z : p < l - 1 ∧ g (l - 2) = 13 => h2 z.1)]
theorem ns_ext {f g : Int → Int} {p e : Int} : ∀ (n : Nat) (q : Int), (e - q).toNat = n → agr f g q e → ns_ f p e n q = ns_ g p e n q
  | 0, _, _, _ => rfl
  | n + 1, q, hn, h => by
    show (if 32 < f q ∧ f q < 127 ∧ f q ≠ 58 then ns_ f p e n (q + 1) else if f q = 58 then q - p else 0) = (if 32 < g q ∧ g q < 127 ∧ g q ≠ 58 then ns_ g p e n (q + 1) else if g q = 58 then q - p else 0)
    rw [h q (Int.le_refl _) (by omega), ns_ext n (q + 1) (by omega) (h.sub (by omega) (Int.le_refl _))]
theorem nameSize_ext {f g : Int → Int} {p e : Int} (h : agr f g p e) : nameSize_ f p e = nameSize_ g p e := ns_ext _ p rfl h
theorem ns_b {g : Int → Int} {p e : Int} : ∀ (n : Nat) (q : Int), (e - q).toNat = n → p ≤ q → q ≤ e → 0 ≤ ns_ g p e n q ∧ ns_ g p e n q ≤ e - p
  | 0, q, hn, h1, h2 => by show (0 : Int) ≤ 0 ∧ (0 : Int) ≤ e - p; omega
  | n + 1, q, hn, h1, h2 => by
    show 0 ≤ (if 32 < g q ∧ g q < 127 ∧ g q ≠ 58 then ns_ g p e n (q + 1) else if g q = 58 then q - p else 0) ∧ (if 32 < g q ∧ g q < 127 ∧ g q ≠ 58 then ns_ g p e n (q + 1) else if g q = 58 then q - p else 0) ≤ e - p
    split
    · exact ns_b n (q + 1) (by omega) (by omega) (by omega)
    · split <;> omega
theorem fl1_ext {f g : Int → Int} {e : Int} : ∀ (n : Nat) (p : Int) (acc : List (List Int × List Int)), agr f g p e → fl1 f e n p acc = fl1 g e n p acc
  | 0, _, _, _ => rfl
  | n + 1, p, acc, h => by
    by_cases he : e ≤ p
    · have e1 : ∀ f, fl1 f e (n + 1) p acc = (acc, e) := fun f => if_pos he
      rw [e1, e1]
    · have hp : p ≤ e := by omega
      have hb := lineEnd_b (f := g) (e := e) _ p rfl hp
      have ht := textEnd_b (f := g) hp
      have hN := ns_b (g := g) (p := p) (e := textEnd_ g p e) _ p rfl (Int.le_refl _) ht.1
      have hs := h.sub hb.1 (Int.le_refl _)
      show (if e ≤ p then (acc, e) else if textEnd_ f p e = p then (acc, lineEnd_ f p e)
        else if 0 < nameSize_ f p (textEnd_ f p e) ∧ acc.length < 8 then fl1 f e n (lineEnd_ f p e) (acc ++ [(slc f p (p + nameSize_ f p (textEnd_ f p e)), slc f (p + nameSize_ f p (textEnd_ f p e) + 1) (textEnd_ f p e))])
        else if bl_ (f p) ∧ acc ≠ [] then fl1 f e n (lineEnd_ f p e) (apl acc (slc f p (textEnd_ f p e)))
        else (acc, p)) = (if e ≤ p then (acc, e) else if textEnd_ g p e = p then (acc, lineEnd_ g p e)
        else if 0 < nameSize_ g p (textEnd_ g p e) ∧ acc.length < 8 then fl1 g e n (lineEnd_ g p e) (acc ++ [(slc g p (p + nameSize_ g p (textEnd_ g p e)), slc g (p + nameSize_ g p (textEnd_ g p e) + 1) (textEnd_ g p e))])
        else if bl_ (g p) ∧ acc ≠ [] then fl1 g e n (lineEnd_ g p e) (apl acc (slc g p (textEnd_ g p e)))
        else (acc, p))
      rw [textEnd_ext hp h, lineEnd_ext h, h p (Int.le_refl _) (by omega), nameSize_ext (h.sub (Int.le_refl _) ht.2.2)]
      have hN0 : 0 ≤ nameSize_ g p (textEnd_ g p e) ∧ nameSize_ g p (textEnd_ g p e) ≤ textEnd_ g p e - p := hN
      generalize nameSize_ g p (textEnd_ g p e) = N at *
      rw [slc_ext (f := f) (g := g) (p := p) (e := p + N) (fun i x y => h i x (by omega)), slc_ext (f := f) (g := g) (p := p + N + 1) (e := textEnd_ g p e) (fun i x y => h i (by omega) (by omega)), slc_ext (f := f) (g := g) (p := p) (e := textEnd_ g p e) (fun i x y => h i x (by omega)), fl1_ext n _ _ hs, fl1_ext n _ _ hs]
theorem flds_ext {f g : Int → Int} {b e : Int} (h : agr f g b e) : flds f b e = flds g b e := by unfold flds; rw [fl1_ext _ _ _ h]
theorem pts_ext {f g : Int → Int} {e : Int} {B : List Int} : ∀ (n : Nat) (p : Int) (o : Option Int) (last : Int), agr f g p e → pts f e B n p o last = pts g e B n p o last
  | 0, _, _, _, _ => rfl
  | n + 1, p, o, last, h => by
    by_cases he : e ≤ p
    · have e1 : ∀ f, pts f e B (n + 1) p o last = cls_ o e := fun f => if_pos he
      rw [e1, e1]
    · have hp : p ≤ e := by omega
      have hb := lineEnd_b (f := g) (e := e) _ p rfl hp
      have ht := textEnd_b (f := g) hp
      have hs := h.sub hb.1 (Int.le_refl _)
      show (if e ≤ p then cls_ o e
        else if mk_ B (slc f p (textEnd_ f p e)) = 2 then cls_ o last
        else if mk_ B (slc f p (textEnd_ f p e)) = 1 then cls_ o last ++ pts f e B n (lineEnd_ f p e) (some (lineEnd_ f p e)) (lineEnd_ f p e)
        else pts f e B n (lineEnd_ f p e) o (textEnd_ f p e)) = (if e ≤ p then cls_ o e
        else if mk_ B (slc g p (textEnd_ g p e)) = 2 then cls_ o last
        else if mk_ B (slc g p (textEnd_ g p e)) = 1 then cls_ o last ++ pts g e B n (lineEnd_ g p e) (some (lineEnd_ g p e)) (lineEnd_ g p e)
        else pts g e B n (lineEnd_ g p e) o (textEnd_ g p e))
      rw [textEnd_ext hp h, lineEnd_ext h, slc_ext (f := f) (g := g) (p := p) (e := textEnd_ g p e) (fun i x y => h i x (by omega)), pts_ext n _ _ _ hs, pts_ext n _ _ _ hs]
theorem parts_ext {f g : Int → Int} {b e : Int} {B : List Int} (h : agr f g b e) : parts_ f b e B = parts_ g b e B := pts_ext _ _ _ _ h
theorem mkE_ext {f g : Int → Int} {x : mt_R} (hx : x.1 ≤ x.2.1) (h : agr f g x.1 x.2.1) : mkE f x = mkE g x ∧ ∀ i, chE f x i = chE g x i := by
  have eF1 : eF f x = eF g x := flds_ext h
  have hi := flds_inv (f := g) hx
  have hi1 : x.1 ≤ (eF g x).2 := hi.1
  have eN1 : eN f x = eN g x := by unfold eN; rw [eF1]
  have eK1 : eK f x = eK g x := by unfold eK; rw [eF1]
  have eC1 : eC f x = eC g x := by unfold eC; rw [eK1, eN1, eF1, slc_ext (f := f) (g := g) (p := (eF g x).2) (e := x.2.1) (fun i a b => h i (by omega) b)]
  have eR1 : eR f x = eR g x := by unfold eR; rw [eK1, eF1, eN1, eC1]
  refine ⟨by unfold mkE; rw [eR1, eF1, eC1, eK1], fun i => ?_⟩
  unfold chE
  rw [eK1, eF1, parts_ext (f := f) (g := g) (h.sub hi1 (Int.le_refl _))]
theorem rdS_ext {f g : Int → Int} {n : Int} (h : agr f g 0 n) : ∀ (k : Nat) (xs : List mt_R) (L : List mt_E) (lo : Int), 0 ≤ lo → chS lo n L.length xs → rdS f k xs L = rdS g k xs L
  | 0, _, _, _, _, _ => rfl
  | _ + 1, [], _, _, _, _ => rfl
  | k + 1, x :: xs, L, lo, hl, hc => by
    show rdS f k ((tk1 f L x).2 ++ xs) (tk1 f L x).1 = rdS g k ((tk1 g L x).2 ++ xs) (tk1 g L x).1
    obtain ⟨m1, m2⟩ := mkE_ext (f := f) (g := g) (x := x) hc.2.1 (h.sub (by have := hc.1; omega) hc.2.2.1)
    by_cases h16 : L.length = 16
    · have e1 : ∀ f, tk1 f L x = (L, []) := fun f => if_pos h16
      rw [e1, e1]
      exact rdS_ext h k xs L (x.2.1 + 3) (by have := hc.1; have := hc.2.1; omega) hc.2.2.2.2.2.2
    · have e1 : ∀ f, tk1 f L x = (bmpI L x.2.2.2 ++ [mkE f x], chE f x L.length) := fun f => if_neg h16
      have hch := chE_ch (f := g) (i := L.length) hc (by omega) (by omega) (by omega)
      rw [e1, e1, m1, m2]
      refine rdS_ext h k _ _ (if (eK g x).1 = 0 then x.2.1 else (eF g x).2) ?_ ?_
      · have h3 := flds_inv (f := g) hc.2.1
        have h4 : x.1 ≤ (eF g x).2 := h3.1
        have := hc.1
        have := hc.2.1
        split <;> omega
      · rw [tk_len]; exact hch
theorem rd0_ext {f g : Int → Int} {n : Int} (hn : 0 ≤ n) (h : agr f g 0 n) : rd0 f n = rd0 g n :=
  rdS_ext h _ _ _ 0 (Int.le_refl _) ⟨Int.le_refl _, hn, Int.le_refl _, ⟨by show (1 : Int) ≤ 1; decide, by show (1 : Int) ≤ 4; decide⟩, by show (-1 : Int) ≤ -1; decide, by show (-1 : Int) < 0; decide, trivial⟩
