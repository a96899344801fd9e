/-! The class holds a tree. -/
def cE (m : mt_M) (N : Nat) (E : mt_E) : Prop := (m (22 + N) 0 = E.1 0 ∧ m (22 + N) 1 = E.1 1 ∧ m (22 + N) 2 = E.1 2 ∧ m (22 + N) 3 = E.1 4 ∧ m (22 + N) 4 = E.1 6 ∧ m (22 + N) 5 = E.1 7 ∧ m (22 + N) 6 = E.1 8 ∧ m (22 + N) 7 = E.1 9 ∧ E.1 3 = E.2.1.length ∧ E.1 5 = E.2.2.1.length) ∧ cG m N E.2.1 ∧ (0 ≤ m (22 + N) 8 ∧ m (22 + N) 9 = E.2.2.1.length ∧ m (22 + N) 8 + E.2.2.1.length ≤ m 5 1 ∧ slc (m 13) (m (22 + N) 8) (m (22 + N) 8 + E.2.2.1.length) = E.2.2.1) ∧ (0 ≤ m (22 + N) 10 ∧ m (22 + N) 11 = E.2.2.2.length ∧ m (22 + N) 10 + E.2.2.2.length ≤ m 6 1 ∧ slc (m 14) (m (22 + N) 10) (m (22 + N) 10 + E.2.2.2.length) = E.2.2.2)
theorem cG.mov {m m' : mt_M} {N : Nat} {F : List (List Int × List Int)} (h : cG m N F) (hk : m' (22 + N) 12 = m (22 + N) 12) (hr : ∀ f : Nat, f < 8 → m' (54 + 8 * N + f) = m (54 + 8 * N + f)) (h3 : m' 3 1 = m 3 1) (h11 : m' 11 = m 11) (hu : up_ m m' 4) : cG m' N F := ⟨by rw [hk]; exact h.1, h.2.1, fun f q hq => (h.2.2 f q hq).mov (hr f (by have := (List.getElem?_eq_some_iff.mp hq).1; have := h.2.1; omega)) h3 h11 hu⟩
theorem cE.gen {m m' : mt_M} {N : Nat} {E E' : mt_E} (h : cE m N E) (h2 : E'.2 = E.2) (hw : ∀ w : Int, w ≠ 6 → E'.1 w = E.1 w) (hk : ∀ z : Int, z ≠ 4 → m' (22 + N) z = m (22 + N) z) (h4 : m' (22 + N) 4 = E'.1 6) (hr : ∀ f : Nat, f < 8 → m' (54 + 8 * N + f) = m (54 + 8 * N + f)) (h3 : m' 3 1 = m 3 1) (h11 : m' 11 = m 11) (hu4 : up_ m m' 4) (hu5 : up_ m m' 5) (hu6 : up_ m m' 6) : cE m' N E' := by
  obtain ⟨⟨a0, a1, a2, a3, a4, a5, a6, a7, a8, a9⟩, b, ⟨c1, c2, c3, c4⟩, d1, d2, d3, d4⟩ := h
  unfold cE
  rw [h2, hk 0 (by decide), hk 1 (by decide), hk 2 (by decide), hk 3 (by decide), hk 5 (by decide), hk 6 (by decide), hk 7 (by decide), hk 8 (by decide), hk 9 (by decide), hk 10 (by decide), hk 11 (by decide), hw 0 (by decide), hw 1 (by decide), hw 2 (by decide), hw 4 (by decide), hw 7 (by decide), hw 8 (by decide), hw 9 (by decide), hw 3 (by decide), hw 5 (by decide)]
  have e5 : slc (m' (5 + 8)) (m (22 + N) 8) (m (22 + N) 8 + E.2.2.1.length) = slc (m (5 + 8)) (m (22 + N) 8) (m (22 + N) 8 + E.2.2.1.length) := hu5.slc c3
  have e6 : slc (m' (6 + 8)) (m (22 + N) 10) (m (22 + N) 10 + E.2.2.2.length) = slc (m (6 + 8)) (m (22 + N) 10) (m (22 + N) 10 + E.2.2.2.length) := hu6.slc d3
  exact ⟨⟨a0, a1, a2, a3, h4, a5, a6, a7, a8, a9⟩, b.mov (hk 12 (by decide)) hr h3 h11 hu4, ⟨c1, c2, by have := hu5.1; omega, e5.trans c4⟩, d1, d2, by have := hu6.1; omega, e6.trans d4⟩
def RC (m : mt_M) (L : List mt_E) : Prop := m 17 7 = L.length ∧ L.length ≤ 16 ∧ (∀ (N : Nat) (E : mt_E), L[N]? = some E → cE m N E) ∧ bw_ m 3 ∧ bw_ m 4 ∧ bw_ m 5 ∧ bw_ m 6 ∧ bw_ m 7
/-- .. and the rows are not longer than what was read -/
def RB (m : mt_M) (L : List mt_E) (P : Int) : Prop := RC m L ∧ m 4 1 ≤ P ∧ m 5 1 ≤ P ∧ m 6 1 ≤ 20 * (L.length : Int)
theorem RB.mono {m : mt_M} {L : List mt_E} {P Q : Int} (h : RB m L P) (hq : P ≤ Q) : RB m L Q := ⟨h.1, by have := h.2.1; omega, by have := h.2.2.1; omega, h.2.2.2⟩
/-- what reading leaves alone -/
def fC (m m' : mt_M) : Prop := ∀ r : Nat, (r ≤ 3 ∨ (8 ≤ r ∧ r ≤ 11) ∨ r = 16 ∨ (19 ≤ r ∧ r ≤ 21) ∨ (38 ≤ r ∧ r ≤ 53) ∨ 182 ≤ r) → m' r = m r
theorem fC.rf {m : mt_M} : fC m m := fun _ _ => rfl
theorem fC.trans {a b c : mt_M} (h1 : fC a b) (h2 : fC b c) : fC a c := fun r hr => by rw [h2 r hr, h1 r hr]
/-- the part's range: what the class gives for a part -/
theorem cT_readParts {G : mt_G} {l : Launch} {j : Nat} (ih : ∀ (l : Launch) (mem : mt_M) (L : List mt_E) (y : mt_R), y.2.2.1 = 5 - (j : Int) → RB mem L y.1 → 0 ≤ y.1 → y.1 ≤ y.2.1 → y.2.1 ≤ mem 3 1 → -1 ≤ y.2.2.2 → y.2.2.2 < L.length → CT G l y_T_readEntity c_T_readEntity 7 none (9 + 2 * j) [vr G 17, vi y.1, vi y.2.1, vi y.2.2.1, vi y.2.2.2] mem (fun v m' => v = none ∧ RB m' (rdT (mem 11) j y L) y.2.1 ∧ fC mem m'))
    {mem : mt_M} {L0 : List mt_E} {N : Nat} {E0 : mt_E} {b e d : Int} {B : List Int} (hj : 1 ≤ j ∧ j ≤ 3) (hE0 : L0[N]? = some E0) (hd : E0.1 1 = d) (hdj : d + 1 = 5 - (j : Int)) (hb8 : E0.1 8 = b) (he9 : E0.1 9 = e) (hB : E0.2.2.2 = B) (hB1 : 1 ≤ B.length) (hRB : RB mem L0 b) (b0 : 0 ≤ b) (b1 : b ≤ e) (e1 : e ≤ mem 3 1) : CT G l y_T_readParts c_T_readParts 10 none (10 + 2 * j) [vr G 17, vr G (22 + N), vi N] mem (fun v m' => v = none ∧ RB m' (rdF (mem 11) j ((parts_ (mem 11) b e B).map (fun q => (q.1, q.2, d + 1, (N : Int)))) L0) e ∧ fC mem m') := by
  have hl9 : ln_ (3 + 8) = 320 := rfl
  have hw0 := hRB.1.2.2.2.1
  have hsz := hw0.2.2.1
  have hN16 : N < 16 := by have := (List.getElem?_eq_some_iff.mp hE0).1; have := hRB.1.2.1; omega
  refine CT.intro (by decide) rfl (Nat.le_of_ble_eq_true rfl) (fun X h he => ?_)
  generalize hf : mem 11 = f at *
  generalize hT : rdF f j ((parts_ f b e B).map (fun q => (q.1, q.2, d + 1, (N : Int)))) L0 = T at *
  -- what is known of the whole while its parts are read
  have whole : ∀ (m : mt_M) (L : List mt_E) (P : Int), RB m L P → kp_ L0 L → fC mem m → (m (22 + N) 1 = d ∧ m (22 + N) 6 = b ∧ m (22 + N) 7 = e ∧ N < L.length) ∧ bw_ m 3 ∧ bw_ m 6 ∧ m 3 = mem 3 ∧ m 11 = f ∧ (m (22 + N) 11 = B.length ∧ 0 ≤ m (22 + N) 10 ∧ m (22 + N) 10 + B.length ≤ m 6 1 ∧ slc (m 14) (m (22 + N) 10) (m (22 + N) 10 + B.length) = B) := by
    intro m L P g1 g2 g3
    obtain ⟨E', a1, a2, a3⟩ := g2.2 N E0 hE0
    obtain ⟨⟨c0, c1, c2, c3, c4, c5, c6, c7, -, -⟩, -, -, d1, d2, d3, d4⟩ := g1.1.2.2.1 N E' a1
    have hB' : E'.2.2.2 = B := by rw [a2]; exact hB
    rw [hB'] at d2 d3 d4
    refine ⟨⟨by rw [c1, a3 1 (by decide)]; exact hd, by rw [c6, a3 8 (by decide)]; exact hb8, by rw [c7, a3 9 (by decide)]; exact he9, (List.getElem?_eq_some_iff.mp a1).1⟩, g1.1.2.2.2.1, g1.1.2.2.2.2.2.2.1, g3 3 (by omega), by rw [g3 11 (by omega)]; exact hf, d2, d1, d3, d4⟩
  have last : ∀ (m : mt_M) (L : List mt_E) (o : Option Int) (P : Int), RB m L P → kp_ L0 L → fC mem m → (∀ pb, o = some pb → 0 ≤ pb ∧ pb ≤ e ∧ P ≤ pb) → P ≤ e → T = rdF f j ((cls_ o e).map (fun q => (q.1, q.2, d + 1, (N : Int)))) L → ∀ x4 x5 x6 x7 x8 x9, JJ G X 0 0 m 130 [some (vr G 17), some (vr G (22 + N)), some (vi N), some (vi (o.getD (-1))), x4, x5, x6, x7, x8, x9] [] := by
    intro m L o P g1 g2 g3 g4 g5 g6 x4 x5 x6 x7 x8 x9
    obtain ⟨⟨w1, w6, w7, wN⟩, w3, wb, r3, r11, -⟩ := whole m L P g1 g2 g3
    cases o with
    | none =>
      have g6 : T = L := g6
      rw [show (none : Option Int).getD (-1) = -1 from rfl]
      refine jj_iload_n h d_T_readParts_130 rfl ?_
      refine jj_if_lt h 150 d_T_readParts_131 (by decide) ⟨by decide, by decide⟩ (fun _ => ?_) (fun q131 => absurd ((by decide)) q131)
      refine jj_vret h he d_T_readParts_150 ?_
      exact ⟨rfl, by rw [g6]; exact g1.mono g5, g3⟩
    | some pb =>
      have g6 : T = rdT f j (pb, e, d + 1, (N : Int)) L := g6
      obtain ⟨p0, p1, p2⟩ := g4 pb rfl
      rw [show (some pb : Option Int).getD (-1) = pb from rfl]
      refine jj_iload_n h d_T_readParts_130 rfl ?_
      refine jj_if_lt h 150 d_T_readParts_131 (by decide) ⟨by omega, by omega⟩ (fun q131 => absurd q131 (by omega)) (fun _ => ?_)
      refine jj_aload_n h d_T_readParts_134 rfl ⟨_, rfl⟩ ?_
      refine jj_iload_n h d_T_readParts_135 rfl ?_
      refine jj_aload_n h d_T_readParts_136 rfl ⟨_, rfl⟩ ?_
      refine jj_g_E_end h (by omega) fl_T_119 d_T_readParts_137 ?_
      try simp only [w1, w7]
      refine jj_aload_n h d_T_readParts_140 rfl ⟨_, rfl⟩ ?_
      refine jj_g_E_depth h (by omega) fl_T_245 d_T_readParts_141 ?_
      try simp only [w1, w7]
      refine jj_iconst h d_T_readParts_144 ?_
      refine jj_iadd h d_T_readParts_145 ?_
      refine jj_iload_n h d_T_readParts_146 rfl ?_
      refine jj_callV h (ih _ m L (pb, e, d + 1, (N : Int)) hdj (g1.mono p2) p0 p1 (by rw [r3]; exact e1) (by show (-1 : Int) ≤ (N : Int); omega) (by show (N : Int) < (L.length : Int); omega)) cv_T_109 (ro_of he (by omega) (by decide)) rfl rfl (by decide) rfl rfl rfl (Nat.le_of_ble_eq_true rfl) d_T_readParts_147 (fun v m147 hv => ?_)
      obtain ⟨rfl, q1, q2⟩ := hv
      rw [r11, ← g6] at q1
      refine jj_vret h he d_T_readParts_150 ?_
      exact ⟨rfl, q1, g3.trans q2⟩
  have loop : ∀ (n : Nat) (p te : Int) (t : Int) (k : Nat) (o : Option Int) (la : Int) (m : mt_M) (L : List mt_E) (x7 x8 x9 : Option Value), (e - p).toNat ≤ n → b ≤ p → p ≤ e → 0 ≤ t → t ≤ p - b → (e - p).toNat + 1 ≤ k → kp_ L0 L → fC mem m → r32 te → (∀ pb, o = some pb → b ≤ pb ∧ pb ≤ la ∧ la ≤ p ∧ RB m L pb ∧ la = max pb te) → (o = none → RB m L p) → T = rdF f j ((pts f e B k p o la).map (fun q => (q.1, q.2, d + 1, (N : Int)))) L → JJ G X 0 0 m 17 [some (vr G 17), some (vr G (22 + N)), some (vi N), some (vi (o.getD (-1))), some (vi te), some (vi p), some (vi t), x7, x8, x9] [] := by
    intro n
    induction n with
    | zero =>
      intro p te t k o la m L x7 x8 x9 k1 k2 k3 k4 k5 k6 k7 k8 k9 k10 k11 k12
      obtain ⟨k, rfl⟩ : ∃ k', k = k' + 1 := ⟨k - 1, by omega⟩
      rw [pts, if_pos (by omega)] at k12
      have hRp : ∃ P, RB m L P ∧ (∀ pb, o = some pb → 0 ≤ pb ∧ pb ≤ e ∧ P ≤ pb) ∧ P ≤ e := by
        cases o with
        | none => exact ⟨p, k11 rfl, fun pb hp => (by cases hp), k3⟩
        | some pb => obtain ⟨a1, a2, a3, a4, a5⟩ := k10 pb rfl; exact ⟨pb, a4, fun q hq => by cases hq; omega, by omega⟩
      obtain ⟨P, z1, z2, z3⟩ := hRp
      obtain ⟨⟨w1, w6, w7, wN⟩, -⟩ := whole m L P z1 k7 k8
      refine jj_iload h d_T_readParts_17 rfl ?_
      refine jj_sipush h d_T_readParts_19 (by decide) ?_
      refine jj_icmp_ge h 130 d_T_readParts_22 (by decide) ⟨by omega, by omega⟩ ⟨by omega, by omega⟩ (fun q22 => ?_) (fun q22 => ?_)
      · exact last m L o P z1 k7 k8 z2 z3 k12 _ _ _ _ _ _
      · refine jj_iload h d_T_readParts_25 rfl ?_
        refine jj_aload_n h d_T_readParts_27 rfl ⟨_, rfl⟩ ?_
        refine jj_g_E_end h (by omega) fl_T_119 d_T_readParts_28 ?_
        try simp only [w7]
        refine jj_icmp_ge h 130 d_T_readParts_31 (by decide) ⟨by omega, by omega⟩ ⟨by omega, by omega⟩ (fun _ => ?_) (fun q31 => absurd (by omega) q31)
        exact last m L o P z1 k7 k8 z2 z3 k12 _ _ _ _ _ _
    | succ n ihn =>
      intro p te t k o la m L x7 x8 x9 k1 k2 k3 k4 k5 k6 k7 k8 k9 k10 k11 k12
      obtain ⟨k, rfl⟩ : ∃ k', k = k' + 1 := ⟨k - 1, by omega⟩
      have hRp : ∃ P, RB m L P ∧ (∀ pb, o = some pb → 0 ≤ pb ∧ pb ≤ e ∧ P ≤ pb) ∧ P ≤ p := by
        cases o with
        | none => exact ⟨p, k11 rfl, fun pb hp => (by cases hp), Int.le_refl _⟩
        | some pb => obtain ⟨a1, a2, a3, a4, a5⟩ := k10 pb rfl; exact ⟨pb, a4, fun q hq => by cases hq; omega, by omega⟩
      obtain ⟨P, z1, z2, z3⟩ := hRp
      obtain ⟨⟨w1, w6, w7, wN⟩, w3, wb, r3, r11, v1, v2, v3, v4⟩ := whole m L P z1 k7 k8
      by_cases hpe : e ≤ p
      · rw [pts, if_pos hpe] at k12
        refine jj_iload h d_T_readParts_17 rfl ?_
        refine jj_sipush h d_T_readParts_19 (by decide) ?_
        refine jj_icmp_ge h 130 d_T_readParts_22 (by decide) ⟨by omega, by omega⟩ ⟨by omega, by omega⟩ (fun q22 => ?_) (fun q22 => ?_)
        · exact last m L o P z1 k7 k8 z2 (by omega) k12 _ _ _ _ _ _
        · refine jj_iload h d_T_readParts_25 rfl ?_
          refine jj_aload_n h d_T_readParts_27 rfl ⟨_, rfl⟩ ?_
          refine jj_g_E_end h (by omega) fl_T_119 d_T_readParts_28 ?_
          try simp only [w7]
          refine jj_icmp_ge h 130 d_T_readParts_31 (by decide) ⟨by omega, by omega⟩ ⟨by omega, by omega⟩ (fun _ => ?_) (fun q31 => absurd (by omega) q31)
          exact last m L o P z1 k7 k8 z2 (by omega) k12 _ _ _ _ _ _
      rw [pts, if_neg hpe] at k12
      have hle := lineEnd_b (f := f) (e := e) _ p rfl k3
      have hte := textEnd_b (f := f) (p := p) (e := e) k3
      have hmk := mk_b B (slc f p (textEnd_ f p e))
      have hL9 : lineEnd_ (m (3 + 8)) p e = lineEnd_ f p e := by rw [show m (3 + 8) = f from r11]
      have hTx := cB_textEnd (G := G) (l := X.2.1) (p := p) (e := e) (L := lineEnd_ f p e) w3 (by omega) (by omega) (by rw [r3]; omega) hL9
      rw [show m (3 + 8) = f from r11] at hTx
      have hMk := cT_markOf (G := G) (l := X.2.1) (p := p) (s := textEnd_ f p e) hN16 w3 wb v1 v2 v3 v4 (by omega) hte.1 (by rw [r3]; omega)
      rw [r11] at hMk
      generalize hLe : lineEnd_ f p e = le at *
      generalize hTe : textEnd_ f p e = tx at *
      generalize hM : mk_ B (slc f p tx) = M at *
      -- behind a part that was read, or none
      have at100 : ∀ (m2 : mt_M) (L2 : List mt_E) (Q : Int), RB m2 L2 Q → kp_ L0 L2 → fC mem m2 → Q ≤ p → (M = 2 → T = L2) → (M = 1 → T = rdF f j ((pts f e B k le (some le) le).map (fun q => (q.1, q.2, d + 1, (N : Int)))) L2) → (M = 0 → m2 = m ∧ L2 = L) → ∀ x7 x8 x9, x7 = some (vi le) → x8 = some (vi tx) → x9 = some (vi M) → JJ G X 0 0 m2 100 [some (vr G 17), some (vr G (22 + N)), some (vi N), some (vi (o.getD (-1))), some (vi te), some (vi p), some (vi t), x7, x8, x9] [] := by
        intro m2 L2 Q y1 y2 y3 y4 y5 y6 y7 x7 x8 x9 hx7 hx8 hx9
        subst hx7 hx8 hx9
        refine jj_iload h d_T_readParts_100 rfl ?_
        refine jj_iconst h d_T_readParts_102 ?_
        refine jj_icmp_ne h 107 d_T_readParts_103 (by decide) ⟨by omega, by omega⟩ ⟨by omega, by omega⟩ (fun q103 => ?_) (fun q103 => ?_)
        · refine jj_iload h d_T_readParts_107 rfl ?_
          refine jj_iconst h d_T_readParts_109 ?_
          refine jj_icmp_ne h 116 d_T_readParts_110 (by decide) ⟨by omega, by omega⟩ ⟨by omega, by omega⟩ (fun q110 => ?_) (fun q110 => ?_)
          · refine jj_iload h d_T_readParts_116 rfl ?_
            refine jj_istore h d_T_readParts_118 (Nat.le_of_ble_eq_true rfl) rfl ?_
            refine jj_iload h d_T_readParts_120 rfl ?_
            refine jj_istore h d_T_readParts_122 (Nat.le_of_ble_eq_true rfl) rfl ?_
            refine jj_iinc h d_T_readParts_124 rfl rfl ?_
            refine jj_goto h 17 d_T_readParts_127 (by decide) ?_
            have hM0 : M = 0 := by omega
            obtain ⟨rfl, rfl⟩ := y7 hM0
            rw [if_neg (by omega), if_neg (by omega)] at k12
            exact ihn le tx (t + 1) k o tx m2 L2 _ _ _ (by omega) (by omega) (by omega) (by omega) (by omega) (by omega) y2 y3 ⟨by omega, by omega⟩ (fun pb hp => by obtain ⟨a1, a2, a3, a4, a5⟩ := k10 pb hp; exact ⟨a1, by omega, by omega, a4, by omega⟩) (fun z => (k11 z).mono (by omega)) k12
          · refine jj_iload h d_T_readParts_113 rfl ?_
            refine jj_istore_n h d_T_readParts_115 (Nat.le_of_ble_eq_true rfl) rfl ?_
            refine jj_iload h d_T_readParts_116 rfl ?_
            refine jj_istore h d_T_readParts_118 (Nat.le_of_ble_eq_true rfl) rfl ?_
            refine jj_iload h d_T_readParts_120 rfl ?_
            refine jj_istore h d_T_readParts_122 (Nat.le_of_ble_eq_true rfl) rfl ?_
            refine jj_iinc h d_T_readParts_124 rfl rfl ?_
            refine jj_goto h 17 d_T_readParts_127 (by decide) ?_
            exact ihn le tx (t + 1) k (some le) le m2 L2 _ _ _ (by omega) (by omega) (by omega) (by omega) (by omega) (by omega) y2 y3 ⟨by omega, by omega⟩ (fun pb hp => by cases hp; exact ⟨by omega, Int.le_refl _, Int.le_refl _, y1.mono (by omega), by omega⟩) (fun z => by cases z) (y6 (by omega))
        · refine jj_vret h he d_T_readParts_106 ?_
          exact ⟨rfl, by rw [y5 (by omega)]; exact y1.mono (by omega), y3⟩
      have hM3 : M = 0 ∨ M = 1 ∨ M = 2 := hmk.1
      cases o with
      | none =>
        rw [show (none : Option Int).getD (-1) = -1 from rfl] at at100 ⊢
        have a9 := at100 m L p (k11 rfl) k7 k8 (Int.le_refl _) (fun z => by rw [if_pos z] at k12; exact k12) (fun z => by rw [if_neg (by omega), if_pos z] at k12; exact k12) (fun _ => ⟨rfl, rfl⟩)
        refine jj_iload h d_T_readParts_17 rfl ?_
        refine jj_sipush h d_T_readParts_19 (by decide) ?_
        refine jj_icmp_ge h 130 d_T_readParts_22 (by decide) ⟨by omega, by omega⟩ ⟨by omega, by omega⟩ (fun q22 => absurd q22 (by omega)) (fun _ => ?_)
        refine jj_iload h d_T_readParts_25 rfl ?_
        refine jj_aload_n h d_T_readParts_27 rfl ⟨_, rfl⟩ ?_
        refine jj_g_E_end h (by omega) fl_T_119 d_T_readParts_28 ?_
        try simp only [w7]
        refine jj_icmp_ge h 130 d_T_readParts_31 (by decide) ⟨by omega, by omega⟩ ⟨by omega, by omega⟩ (fun q31 => absurd q31 (by omega)) (fun _ => ?_)
        refine jj_aload_n h d_T_readParts_34 rfl ⟨_, rfl⟩ ?_
        refine jj_g_T_source h  fl_T_14 d_T_readParts_35 ?_
        try simp only [w7]
        refine jj_iload h d_T_readParts_38 rfl ?_
        refine jj_aload_n h d_T_readParts_40 rfl ⟨_, rfl⟩ ?_
        refine jj_g_E_end h (by omega) fl_T_119 d_T_readParts_41 ?_
        try simp only [w7]
        refine jj_callV h (cB_lineEnd w3 (by omega) (by omega) (by rw [r3]; omega)) cv_T_122 (ro_of he (by first | decide | omega) (by decide)) rfl rfl (by unfold mt_N; omega) (ce_B (by omega)) rfl rfl (Nat.le_of_ble_eq_true rfl) d_T_readParts_44 (fun v m44 hv => ?_)
        obtain ⟨rfl, rfl⟩ := hv
        rw [hL9]
        refine jj_istore h d_T_readParts_47 (Nat.le_of_ble_eq_true rfl) rfl ?_
        refine jj_aload_n h d_T_readParts_49 rfl ⟨_, rfl⟩ ?_
        refine jj_g_T_source h  fl_T_14 d_T_readParts_50 ?_
        try simp only [w7]
        refine jj_iload h d_T_readParts_53 rfl ?_
        refine jj_iload h d_T_readParts_55 rfl ?_
        refine jj_callV h (hTx) cv_T_126 (ro_of he (by first | decide | omega) (by decide)) rfl rfl (by unfold mt_N; omega) (ce_B (by omega)) rfl rfl (Nat.le_of_ble_eq_true rfl) d_T_readParts_57 (fun v m57 hv => ?_)
        obtain ⟨rfl, rfl⟩ := hv
        refine jj_istore h d_T_readParts_60 (Nat.le_of_ble_eq_true rfl) rfl ?_
        refine jj_aload_n h d_T_readParts_62 rfl ⟨_, rfl⟩ ?_
        refine jj_aload_n h d_T_readParts_63 rfl ⟨_, rfl⟩ ?_
        refine jj_iload h d_T_readParts_64 rfl ?_
        refine jj_iload h d_T_readParts_66 rfl ?_
        refine jj_callV h (hMk) cv_T_236 (ro_of he (by first | decide | omega) (by decide)) rfl rfl (by decide) rfl rfl rfl (Nat.le_of_ble_eq_true rfl) d_T_readParts_68 (fun v m68 hv => ?_)
        obtain ⟨rfl, rfl⟩ := hv
        refine jj_istore h d_T_readParts_71 (Nat.le_of_ble_eq_true rfl) rfl ?_
        refine jj_iload h d_T_readParts_73 rfl ?_
        refine jj_if_eq h 100 d_T_readParts_75 (by decide) ⟨by omega, by omega⟩ (fun q75 => ?_) (fun q75 => ?_)
        · exact a9 _ _ _ rfl rfl rfl
        · refine jj_iload_n h d_T_readParts_78 rfl ?_
          refine jj_if_lt h 100 d_T_readParts_79 (by decide) ⟨by decide, by decide⟩ (fun _ => ?_) (fun q79 => absurd ((by decide)) q79)
          exact a9 _ _ _ rfl rfl rfl
      | some pb =>
        obtain ⟨a1, a2, a3, a4, a5⟩ := k10 pb rfl
        rw [show (some pb : Option Int).getD (-1) = pb from rfl] at at100 ⊢
        by_cases hM0 : M = 0
        · have a9 := at100 m L pb a4 k7 k8 (by omega) (fun z => absurd z (by omega)) (fun z => absurd z (by omega)) (fun _ => ⟨rfl, rfl⟩)
          refine jj_iload h d_T_readParts_17 rfl ?_
          refine jj_sipush h d_T_readParts_19 (by decide) ?_
          refine jj_icmp_ge h 130 d_T_readParts_22 (by decide) ⟨by omega, by omega⟩ ⟨by omega, by omega⟩ (fun q22 => absurd q22 (by omega)) (fun _ => ?_)
          refine jj_iload h d_T_readParts_25 rfl ?_
          refine jj_aload_n h d_T_readParts_27 rfl ⟨_, rfl⟩ ?_
          refine jj_g_E_end h (by omega) fl_T_119 d_T_readParts_28 ?_
          try simp only [w7]
          refine jj_icmp_ge h 130 d_T_readParts_31 (by decide) ⟨by omega, by omega⟩ ⟨by omega, by omega⟩ (fun q31 => absurd q31 (by omega)) (fun _ => ?_)
          refine jj_aload_n h d_T_readParts_34 rfl ⟨_, rfl⟩ ?_
          refine jj_g_T_source h  fl_T_14 d_T_readParts_35 ?_
          try simp only [w7]
          refine jj_iload h d_T_readParts_38 rfl ?_
          refine jj_aload_n h d_T_readParts_40 rfl ⟨_, rfl⟩ ?_
          refine jj_g_E_end h (by omega) fl_T_119 d_T_readParts_41 ?_
          try simp only [w7]
          refine jj_callV h (cB_lineEnd w3 (by omega) (by omega) (by rw [r3]; omega)) cv_T_122 (ro_of he (by first | decide | omega) (by decide)) rfl rfl (by unfold mt_N; omega) (ce_B (by omega)) rfl rfl (Nat.le_of_ble_eq_true rfl) d_T_readParts_44 (fun v m44 hv => ?_)
          obtain ⟨rfl, rfl⟩ := hv
          rw [hL9]
          refine jj_istore h d_T_readParts_47 (Nat.le_of_ble_eq_true rfl) rfl ?_
          refine jj_aload_n h d_T_readParts_49 rfl ⟨_, rfl⟩ ?_
          refine jj_g_T_source h  fl_T_14 d_T_readParts_50 ?_
          try simp only [w7]
          refine jj_iload h d_T_readParts_53 rfl ?_
          refine jj_iload h d_T_readParts_55 rfl ?_
          refine jj_callV h (hTx) cv_T_126 (ro_of he (by first | decide | omega) (by decide)) rfl rfl (by unfold mt_N; omega) (ce_B (by omega)) rfl rfl (Nat.le_of_ble_eq_true rfl) d_T_readParts_57 (fun v m57 hv => ?_)
          obtain ⟨rfl, rfl⟩ := hv
          refine jj_istore h d_T_readParts_60 (Nat.le_of_ble_eq_true rfl) rfl ?_
          refine jj_aload_n h d_T_readParts_62 rfl ⟨_, rfl⟩ ?_
          refine jj_aload_n h d_T_readParts_63 rfl ⟨_, rfl⟩ ?_
          refine jj_iload h d_T_readParts_64 rfl ?_
          refine jj_iload h d_T_readParts_66 rfl ?_
          refine jj_callV h (hMk) cv_T_236 (ro_of he (by first | decide | omega) (by decide)) rfl rfl (by decide) rfl rfl rfl (Nat.le_of_ble_eq_true rfl) d_T_readParts_68 (fun v m68 hv => ?_)
          obtain ⟨rfl, rfl⟩ := hv
          refine jj_istore h d_T_readParts_71 (Nat.le_of_ble_eq_true rfl) rfl ?_
          refine jj_iload h d_T_readParts_73 rfl ?_
          refine jj_if_eq h 100 d_T_readParts_75 (by decide) ⟨by omega, by omega⟩ (fun _ => ?_) (fun q75 => absurd (hM0) q75)
          exact a9 _ _ _ rfl rfl rfl
        · have hchild := ih X.2.1 m L (pb, la, d + 1, (N : Int)) hdj a4 (by show 0 ≤ pb; omega) a2 (by show la ≤ m 3 1; rw [r3]; omega) (by show (-1 : Int) ≤ (N : Int); omega) (by show (N : Int) < (L.length : Int); omega)
          refine jj_iload h d_T_readParts_17 rfl ?_
          refine jj_sipush h d_T_readParts_19 (by decide) ?_
          refine jj_icmp_ge h 130 d_T_readParts_22 (by decide) ⟨by omega, by omega⟩ ⟨by omega, by omega⟩ (fun q22 => absurd q22 (by omega)) (fun _ => ?_)
          refine jj_iload h d_T_readParts_25 rfl ?_
          refine jj_aload_n h d_T_readParts_27 rfl ⟨_, rfl⟩ ?_
          refine jj_g_E_end h (by omega) fl_T_119 d_T_readParts_28 ?_
          try simp only [w7, w1]
          refine jj_icmp_ge h 130 d_T_readParts_31 (by decide) ⟨by omega, by omega⟩ ⟨by omega, by omega⟩ (fun q31 => absurd q31 (by omega)) (fun _ => ?_)
          refine jj_aload_n h d_T_readParts_34 rfl ⟨_, rfl⟩ ?_
          refine jj_g_T_source h  fl_T_14 d_T_readParts_35 ?_
          try simp only [w7, w1]
          refine jj_iload h d_T_readParts_38 rfl ?_
          refine jj_aload_n h d_T_readParts_40 rfl ⟨_, rfl⟩ ?_
          refine jj_g_E_end h (by omega) fl_T_119 d_T_readParts_41 ?_
          try simp only [w7, w1]
          refine jj_callV h (cB_lineEnd w3 (by omega) (by omega) (by rw [r3]; omega)) cv_T_122 (ro_of he (by first | decide | omega) (by decide)) rfl rfl (by unfold mt_N; omega) (ce_B (by omega)) rfl rfl (Nat.le_of_ble_eq_true rfl) d_T_readParts_44 (fun v m44 hv => ?_)
          obtain ⟨rfl, rfl⟩ := hv
          rw [hL9]
          refine jj_istore h d_T_readParts_47 (Nat.le_of_ble_eq_true rfl) rfl ?_
          refine jj_aload_n h d_T_readParts_49 rfl ⟨_, rfl⟩ ?_
          refine jj_g_T_source h  fl_T_14 d_T_readParts_50 ?_
          try simp only [w7, w1]
          refine jj_iload h d_T_readParts_53 rfl ?_
          refine jj_iload h d_T_readParts_55 rfl ?_
          refine jj_callV h (hTx) cv_T_126 (ro_of he (by first | decide | omega) (by decide)) rfl rfl (by unfold mt_N; omega) (ce_B (by omega)) rfl rfl (Nat.le_of_ble_eq_true rfl) d_T_readParts_57 (fun v m57 hv => ?_)
          obtain ⟨rfl, rfl⟩ := hv
          refine jj_istore h d_T_readParts_60 (Nat.le_of_ble_eq_true rfl) rfl ?_
          refine jj_aload_n h d_T_readParts_62 rfl ⟨_, rfl⟩ ?_
          refine jj_aload_n h d_T_readParts_63 rfl ⟨_, rfl⟩ ?_
          refine jj_iload h d_T_readParts_64 rfl ?_
          refine jj_iload h d_T_readParts_66 rfl ?_
          refine jj_callV h (hMk) cv_T_236 (ro_of he (by first | decide | omega) (by decide)) rfl rfl (by decide) rfl rfl rfl (Nat.le_of_ble_eq_true rfl) d_T_readParts_68 (fun v m68 hv => ?_)
          obtain ⟨rfl, rfl⟩ := hv
          refine jj_istore h d_T_readParts_71 (Nat.le_of_ble_eq_true rfl) rfl ?_
          refine jj_iload h d_T_readParts_73 rfl ?_
          refine jj_if_eq h 100 d_T_readParts_75 (by decide) ⟨by omega, by omega⟩ (fun q75 => absurd q75 (hM0)) (fun _ => ?_)
          refine jj_iload_n h d_T_readParts_78 rfl ?_
          refine jj_if_lt h 100 d_T_readParts_79 (by decide) ⟨by omega, by omega⟩ (fun q79 => absurd q79 (by omega)) (fun _ => ?_)
          refine jj_aload_n h d_T_readParts_82 rfl ⟨_, rfl⟩ ?_
          refine jj_iload_n h d_T_readParts_83 rfl ?_
          refine jj_iload_n h d_T_readParts_84 rfl ?_
          refine jj_iload h d_T_readParts_85 rfl ?_
          refine jj_mx h he ⟨by omega, by omega⟩ k9 (by omega) rfl cv_T_240 (Nat.le_of_ble_eq_true rfl) d_T_readParts_87 ?_
          rw [← a5]
          refine jj_aload_n h d_T_readParts_90 rfl ⟨_, rfl⟩ ?_
          refine jj_g_E_depth h (by omega) fl_T_245 d_T_readParts_91 ?_
          try simp only [w7, w1]
          refine jj_iconst h d_T_readParts_94 ?_
          refine jj_iadd h d_T_readParts_95 ?_
          refine jj_iload_n h d_T_readParts_96 rfl ?_
          refine jj_callV h (hchild) cv_T_109 (ro_of he (by omega) (by decide)) rfl rfl (by decide) rfl rfl rfl (Nat.le_of_ble_eq_true rfl) d_T_readParts_97 (fun v m97 hv => ?_)
          obtain ⟨rfl, q1, q2⟩ := hv
          rw [r11] at q1
          refine at100 _ (rdT f j (pb, la, d + 1, (N : Int)) L) la q1 (k7.trans (rdT_kp _ _ _)) (k8.trans q2) a3 (fun z => ?_) (fun z => ?_) (fun z => absurd z hM0) _ _ _ rfl rfl rfl
          · rw [if_pos z] at k12; exact k12
          · rw [if_neg (by omega), if_pos z] at k12
            rw [k12]
            show rdF f j ((pb, la, d + 1, (N : Int)) :: _) L = _
            rfl
  obtain ⟨⟨w1, w6, w7, wN⟩, -⟩ := whole mem L0 b hRB kp_.rf fC.rf
  refine jj_iconst h d_T_readParts_0 ?_
  refine jj_istore_n h d_T_readParts_1 (Nat.le_of_ble_eq_true rfl) rfl ?_
  refine jj_aload_n h d_T_readParts_2 rfl ⟨_, rfl⟩ ?_
  refine jj_g_E_body h (by omega) fl_T_86 d_T_readParts_3 ?_
  try simp only [w6]
  refine jj_istore h d_T_readParts_6 (Nat.le_of_ble_eq_true rfl) rfl ?_
  refine jj_aload_n h d_T_readParts_8 rfl ⟨_, rfl⟩ ?_
  refine jj_g_E_body h (by omega) fl_T_86 d_T_readParts_9 ?_
  try simp only [w6]
  refine jj_istore h d_T_readParts_12 (Nat.le_of_ble_eq_true rfl) rfl ?_
  refine jj_iconst h d_T_readParts_14 ?_
  refine jj_istore h d_T_readParts_15 (Nat.le_of_ble_eq_true rfl) rfl ?_
  exact loop _ b b 0 _ none b mem L0 _ _ _ (Nat.le_refl _) (Int.le_refl _) b1 (Int.le_refl _) (by omega) (Nat.le_refl _) kp_.rf fC.rf ⟨by omega, by omega⟩ (fun pb hp => by cases hp) (fun _ => hRB) hT.symm
