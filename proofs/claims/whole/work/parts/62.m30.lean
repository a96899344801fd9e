/-! What is written: entity by entity; and the pile of open entities writes it. -/
def nlE (E : mt_E) : List Int := if E.1 0 = 1 then [13, 10] else []
def wP_ (g : Int → List Int) (L : List mt_E) (e : Int) : Nat → Int → List Int
  | 0, _ => dl_ (gE L e) 1
  | j + 1, k => if (gE L k).1 2 = e then dl_ (gE L e) 0 ++ g k ++ nlE (gE L e) ++ wP_ g L e j (k + 1) else wP_ g L e j (k + 1)
def wE_ (L : List mt_E) : Nat → Int → List Int
  | 0, _ => []
  | d + 1, e => hd_ (gE L e) ++ wP_ (wE_ L d) L e (L.length - (e + 1)).toNat (e + 1)
theorem wP_pf {g : Int → List Int} {L : List mt_E} {e : Int} : ∀ (j : Nat) (k : Int), (L.length - k).toNat = j → 0 ≤ k → (0 ≤ pf_ L e j k → wP_ g L e j k = dl_ (gE L e) 0 ++ g (pf_ L e j k) ++ nlE (gE L e) ++ wP_ g L e (L.length - (pf_ L e j k + 1)).toNat (pf_ L e j k + 1)) ∧ (¬ 0 ≤ pf_ L e j k → wP_ g L e j k = dl_ (gE L e) 1)
  | 0, k, _, _ => ⟨fun h => absurd h (by show ¬ (0 : Int) ≤ -1; decide), fun _ => rfl⟩
  | j + 1, k, hj, hk => by
    by_cases q : (gE L k).1 2 = e
    · have e1 : pf_ L e (j + 1) k = k := if_pos q
      have e2 : wP_ g L e (j + 1) k = dl_ (gE L e) 0 ++ g k ++ nlE (gE L e) ++ wP_ g L e j (k + 1) := if_pos q
      rw [e1, e2, show (L.length - (k + 1)).toNat = j by omega]
      exact ⟨fun _ => rfl, fun h => absurd hk h⟩
    · have e1 : pf_ L e (j + 1) k = pf_ L e j (k + 1) := if_neg q
      have e2 : wP_ g L e (j + 1) k = wP_ g L e j (k + 1) := if_neg q
      rw [e1, e2]
      exact wP_pf j (k + 1) (by omega) (by omega)
/-- depths: one more than the parent's, 4 at most; a parent is no leaf -/
def TI_ (L : List mt_E) : Prop := ∀ k : Int, 0 ≤ k → k < L.length → (1 ≤ (gE L k).1 1 ∧ (gE L k).1 1 ≤ 4) ∧ (0 ≤ (gE L k).1 2 → (gE L k).1 1 = (gE L ((gE L k).1 2)).1 1 + 1 ∧ (gE L ((gE L k).1 2)).1 0 ≠ 0)
def wb_ : Nat → Int
  | 0 => 0
  | d + 1 => 120000 + 16 * wb_ d
theorem wb_0 : ∀ d, 0 ≤ wb_ d
  | 0 => by decide
  | d + 1 => by have := wb_0 d; show 0 ≤ 120000 + 16 * wb_ d; omega
theorem mul_bd {w nx K : Int} (hw : 0 ≤ w) (h : nx ≤ K) : (16 - (K + 1)) * w + w ≤ (16 - nx) * w := by
  have h1 : (16 - (K + 1) + 1) * w ≤ (16 - nx) * w := Int.mul_le_mul_of_nonneg_right (by omega) hw
  rw [Int.add_mul, Int.one_mul] at h1
  exact h1
theorem mul_b16 {w K : Int} (hw : 0 ≤ w) (h : 0 ≤ K) : (16 - K) * w ≤ 16 * w := Int.mul_le_mul_of_nonneg_right (by omega) hw
theorem mul_b1 {w K : Int} (hw : 0 ≤ w) (h : K ≤ 16) : 0 ≤ (16 - K) * w := Int.mul_nonneg (by omega) hw
theorem run_ {L : List mt_E} {m0 : mt_M} {P : mt_M → Prop} (hti : TI_ L) (hl : L.length ≤ 16)
    (hstep : ∀ (m : mt_M) (e nx : Int) (R : List (Int × Int)) (A : List Int) (K : Int), ws_ m0 m ((e, nx) :: R) A → 0 ≤ e → e < L.length → 0 ≤ nx → nx ≤ 16 → R.length ≤ 4 → (∀ q R', R = q :: R' → 0 ≤ q.1 ∧ q.1 < L.length) → A.length ≤ 1600000000 → pf_ L e (L.length - nx).toNat nx = K → (∀ m' : mt_M, (0 ≤ K → ws_ m0 m' ((K, K + 1) :: (e, K + 1) :: R) (A ++ dl_ (gE L e) 0 ++ hd_ (gE L K))) → (¬ 0 ≤ K → ws_ m0 m' R (A ++ dl_ (gE L e) 1 ++ nlR L R)) → m' 182 17 ≤ m 182 17 + 60000 → P m') → P m) :
    ∀ (d j : Nat) (e nx : Int) (R : List (Int × Int)) (A : List Int) (m : mt_M), (16 - nx).toNat ≤ j → (gE L e).1 1 + d = 4 → R.length < (gE L e).1 1 → 0 ≤ e → e < L.length → 0 ≤ nx → nx ≤ 16 → (∀ q R', R = q :: R' → 0 ≤ q.1 ∧ q.1 < L.length) → ws_ m0 m ((e, nx) :: R) A → A.length + 60000 + (16 - nx) * wb_ d ≤ 1600000000 → (∀ m' : mt_M, ws_ m0 m' R (A ++ wP_ (wE_ L d) L e (L.length - nx).toNat nx ++ nlR L R) → ((A ++ wP_ (wE_ L d) L e (L.length - nx).toNat nx ++ nlR L R).length : Int) ≤ A.length + 60000 + (16 - nx) * wb_ d → P m') → P m := by
  intro d
  induction d with
  | zero =>
    intro j e nx R A m hj hd hR e0 e1 n0 n1 hv hw hb hc
    have hb2 := mul_b1 (wb_0 0) n1
    refine hstep m e nx R A _ hw e0 e1 n0 n1 (by omega) hv (by omega) rfl (fun m' h1 h2 h3 => ?_)
    have hr := pf_r (L := L) (e := e) (L.length - nx).toNat nx
    have hpf := wP_pf (g := wE_ L 0) (L := L) (e := e) (L.length - nx).toNat nx rfl n0
    generalize pf_ L e (L.length - nx).toNat nx = K at *
    by_cases hK : 0 ≤ K
    · obtain ⟨r1, r2, r3⟩ := hr hK
      obtain ⟨⟨t1, t2⟩, t3⟩ := hti K hK (by omega)
      have := (t3 (by omega)).1
      rw [r3] at this
      omega
    · rw [hpf.2 hK] at hc
      have h2' := h2 hK
      have e3 := h2'.2.1.1
      have e4 := hw.2.1.1
      exact hc m' h2' (by omega)
  | succ d ihd =>
    intro j
    induction j with
    | zero =>
      intro e nx R A m hj hd hR e0 e1 n0 n1 hv hw hb hc
      have hb2 := mul_b1 (wb_0 (d + 1)) n1
      refine hstep m e nx R A _ hw e0 e1 n0 n1 (by omega) hv (by omega) rfl (fun m' h1 h2 h3 => ?_)
      have hr := pf_r (L := L) (e := e) (L.length - nx).toNat nx
      have hpf := wP_pf (g := wE_ L (d + 1)) (L := L) (e := e) (L.length - nx).toNat nx rfl n0
      generalize pf_ L e (L.length - nx).toNat nx = K at *
      by_cases hK : 0 ≤ K
      · obtain ⟨r1, r2, r3⟩ := hr hK
        omega
      · rw [hpf.2 hK] at hc
        have h2' := h2 hK
        have e3 := h2'.2.1.1
        have e4 := hw.2.1.1
        exact hc m' h2' (by omega)
    | succ j ihj =>
      intro e nx R A m hj hd hR e0 e1 n0 n1 hv hw hb hc
      have hb2 := mul_b1 (wb_0 (d + 1)) n1
      refine hstep m e nx R A _ hw e0 e1 n0 n1 (by omega) hv (by omega) rfl (fun m' h1 h2 h3 => ?_)
      have hr := pf_r (L := L) (e := e) (L.length - nx).toNat nx
      have hpf := wP_pf (g := wE_ L (d + 1)) (L := L) (e := e) (L.length - nx).toNat nx rfl n0
      generalize pf_ L e (L.length - nx).toNat nx = K at *
      by_cases hK : 0 ≤ K
      · obtain ⟨r1, r2, r3⟩ := hr hK
        obtain ⟨⟨t1, t2⟩, t3⟩ := hti K hK (by omega)
        have tt := (t3 (by omega)).1
        rw [r3] at tt
        have h1' := h1 hK
        have e3 := h1'.2.1.1
        have e4 := hw.2.1.1
        have b1 := mul_bd (wb_0 (d + 1)) r1
        have b2 := mul_b16 (K := K + 1) (wb_0 d) (by omega)
        have b3 : wb_ (d + 1) = 120000 + 16 * wb_ d := rfl
        have b4 := mul_b1 (K := K + 1) (wb_0 (d + 1)) (by omega)
        rw [hpf.1 hK] at hc
        have hg : wE_ L (d + 1) K = hd_ (gE L K) ++ wP_ (wE_ L d) L K (L.length - (K + 1)).toNat (K + 1) := rfl
        have hn : nlR L ((e, K + 1) :: R) = nlE (gE L e) := rfl
        refine ihd _ K (K + 1) ((e, K + 1) :: R) _ m' (Nat.le_refl _) (by omega) (by rw [List.length_cons]; omega) hK (by omega) (by omega) (by omega) (fun q R' hq => by injection hq with hq1 hq2; subst hq1; exact ⟨e0, e1⟩) h1' (by omega) (fun m2 hw2 hlen => ?_)
        rw [hn] at hw2 hlen
        have ea : A ++ dl_ (gE L e) 0 ++ hd_ (gE L K) ++ wP_ (wE_ L d) L K (L.length - (K + 1)).toNat (K + 1) ++ nlE (gE L e) = A ++ (dl_ (gE L e) 0 ++ wE_ L (d + 1) K ++ nlE (gE L e)) := by rw [hg]; simp only [List.append_assoc]
        rw [ea] at hw2 hlen
        refine ihj e (K + 1) R _ m2 (by omega) hd hR e0 e1 (by omega) (by omega) hv hw2 (by omega) (fun m3 hw3 hlen3 => ?_)
        have eb : A ++ (dl_ (gE L e) 0 ++ wE_ L (d + 1) K ++ nlE (gE L e)) ++ wP_ (wE_ L (d + 1)) L e (L.length - (K + 1)).toNat (K + 1) ++ nlR L R = A ++ (dl_ (gE L e) 0 ++ wE_ L (d + 1) K ++ nlE (gE L e) ++ wP_ (wE_ L (d + 1)) L e (L.length - (K + 1)).toNat (K + 1)) ++ nlR L R := by simp only [List.append_assoc]
        rw [eb] at hw3 hlen3
        exact hc m3 hw3 (by omega)
      · rw [hpf.2 hK] at hc
        have h2' := h2 hK
        have e3 := h2'.2.1.1
        have e4 := hw.2.1.1
        exact hc m' h2' (by omega)
