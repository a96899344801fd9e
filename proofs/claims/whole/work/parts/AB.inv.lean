/-! What holds of both sides before every operation. -/
def IM (m : mt_M) : Prop := bw_ m 1 ∧ m 182 1 = m 1 1 ∧ ∀ i : Int, 0 ≤ i → i < m 1 1 → m 183 i = m 9 i
def IL (m : mt_M) : Prop := bw_ m 2 ∧ m 182 20 = m 2 1 ∧ ∀ i : Int, 0 ≤ i → i < m 2 1 → m 191 i = m 10 i
def TR (L : List mt_E) : Prop := tL_ L ∧ 1 ≤ L.length ∧ (gE L 0).1 1 = 1 ∧ ∀ E ∈ L, nbd_ E
def IT (m : mt_M) : Prop := ∃ L : List mt_E, RC m L ∧ RM m L ∧ ((m 182 3 = 0 ∧ L = []) ∨ (m 182 3 = 1 ∧ TR L))
def IV (m : mt_M) : Prop := IM m ∧ IL m ∧ IT m
theorem IM.mov {m m' : mt_M} (h : IM m) (h1 : m' 1 = m 1) (h9 : m' 9 = m 9) (hf : m' 182 1 = m 182 1) (hm : m' 183 = m 183) : IM m' :=
  ⟨h.1.mov h1 h9, by rw [hf, h1]; exact h.2.1, fun i i0 i1 => by rw [hm, h9]; rw [h1] at i1; exact h.2.2 i i0 i1⟩
theorem IL.mov {m m' : mt_M} (h : IL m) (h2 : m' 2 = m 2) (h10 : m' 10 = m 10) (hw : m' 182 20 = m 182 20) (hk : m' 191 = m 191) : IL m' :=
  ⟨h.1.mov h2 h10, by rw [hw, h2]; exact h.2.1, fun i i0 i1 => by rw [hk, h10]; rw [h2] at i1; exact h.2.2 i i0 i1⟩
theorem IT.mov {m m' : mt_M} (h : IT m) (hc : ∀ r : Nat, ((3 ≤ r ∧ r ≤ 7) ∨ (11 ≤ r ∧ r ≤ 15) ∨ r = 17 ∨ (22 ≤ r ∧ r ≤ 37) ∨ (54 ≤ r ∧ r ≤ 181)) → m' r = m r) (hT : m' 182 9 = m 182 9) (hE : m' 182 5 = m 182 5) (hR : m' 182 3 = m 182 3) (hX : m' 187 = m 187) (hD : m' 185 = m 185) (hF : m' 186 = m 186) : IT m' := by
  obtain ⟨L, a, b, c⟩ := h
  refine ⟨L, a.mov hc, b.mv hT hE hX hD hF, ?_⟩
  rw [hR]; exact c
/-- only rows that nobody minds have changed, or 'thrown' -/
theorem IV.mov {m m' : mt_M} (h : IV m) (hr : ∀ r : Nat, r ≠ 8 → r ≠ 16 → r ≠ 194 → r ≠ 182 → m' r = m r) (hz : ∀ z : Int, z ≠ 0 → m' 182 z = m 182 z) : IV m' :=
  ⟨h.1.mov (hr _ (by decide) (by decide) (by decide) (by decide)) (hr _ (by decide) (by decide) (by decide) (by decide)) (hz _ (by decide)) (hr _ (by decide) (by decide) (by decide) (by decide)),
   h.2.1.mov (hr _ (by decide) (by decide) (by decide) (by decide)) (hr _ (by decide) (by decide) (by decide) (by decide)) (hz _ (by decide)) (hr _ (by decide) (by decide) (by decide) (by decide)),
   h.2.2.mov (fun r q => hr r (by omega) (by omega) (by omega) (by omega)) (hz _ (by decide)) (hz _ (by decide)) (hz _ (by decide)) (hr _ (by decide) (by decide) (by decide) (by decide)) (hr _ (by decide) (by decide) (by decide) (by decide)) (hr _ (by decide) (by decide) (by decide) (by decide))⟩
theorem IV.th {m : mt_M} (h : IV m) (t : Int) : IV (st_ m 182 0 t) := h.mov (fun r _ _ _ d => st_row d) (fun z hz => st_ne (by omega))
theorem IV.out {m : mt_M} (h : IV m) (x : Int) : IV (st_ m 194 0 x) := h.mov (fun r _ _ c _ => st_row c) (fun z _ => st_ne (Or.inl (by decide)))
/-- fed -/
theorem IV.feed {m : mt_M} {v n : Int} (h : IV m) (ho : fdOk (m 1 1) n) : IV (st_ (wrL (st_ (bL_ m 1 (bts v n)) 182 0 0) 183 (m 1 1) (bts v n)) 182 1 (m 1 1 + n)) := by
  obtain ⟨hM, hL, hT⟩ := h
  obtain ⟨n1, n8, nf⟩ := ho
  have hlen : ((bts v n).length : Int) = n := by unfold bts; rw [slc_lenI (by omega)]; omega
  have hb : ∀ c ∈ bts v n, 0 ≤ c ∧ c ≤ 255 := slc_by (fun i i0 i1 => bt_b i0 (by omega))
  have l9 : ln_ (1 + 8) = 320 := rfl
  obtain ⟨f1, f2, f3, f4⟩ := bL_fit (r := 1) (bts v n) m hM.1.2.1 (by rw [l9, hlen]; omega)
  have w1 := hM.1.bL hb (by rw [l9, hlen]; omega)
  generalize hA : bts v n = A at *
  generalize hB : bL_ m 1 A = B at *
  have rB : ∀ r : Nat, r ≠ 1 → r ≠ 9 → B r = m r := fun r a b => by rw [← hB]; exact bL_row a b A m
  generalize hC : wrL (st_ B 182 0 0) 183 (m 1 1) A = C
  have c182 : C 182 = st_ B 182 0 0 182 := by rw [← hC, wrL_row (by decide)]
  have rC : ∀ r : Nat, r ≠ 183 → r ≠ 182 → C r = B r := fun r a b => by rw [← hC, wrL_row a, st_row b]
  have rD : ∀ r : Nat, r ≠ 1 → r ≠ 9 → r ≠ 183 → r ≠ 182 → st_ C 182 1 (m 1 1 + n) r = m r := fun r a b c d => by rw [st_row d, rC r c d, rB r a b]
  have zD : ∀ z : Int, z ≠ 0 → z ≠ 1 → st_ C 182 1 (m 1 1 + n) 182 z = m 182 z := fun z a b => by rw [st_ne (by omega), c182, st_ne (by omega), rB 182 (by decide) (by decide)]
  have d1 : st_ C 182 1 (m 1 1 + n) 1 = B 1 := by rw [st_row (by decide), rC 1 (by decide) (by decide)]
  have d9 : st_ C 182 1 (m 1 1 + n) 9 = B 9 := by rw [st_row (by decide), rC 9 (by decide) (by decide)]
  have d183 : st_ C 182 1 (m 1 1 + n) 183 = C 183 := st_row (by decide)
  refine ⟨⟨w1.mov d1 d9, ?_, fun i i0 i1 => ?_⟩, hL.mov (rD _ (by decide) (by decide) (by decide) (by decide)) (rD _ (by decide) (by decide) (by decide) (by decide)) (zD _ (by decide) (by decide)) (rD _ (by decide) (by decide) (by decide) (by decide)),
    hT.mov (fun r q => rD r (by omega) (by omega) (by omega) (by omega)) (zD _ (by decide) (by decide)) (zD _ (by decide) (by decide)) (zD _ (by decide) (by decide)) (rD _ (by decide) (by decide) (by decide) (by decide)) (rD _ (by decide) (by decide) (by decide) (by decide)) (rD _ (by decide) (by decide) (by decide) (by decide))⟩
  · rw [st_same, d1, f1, hlen]
  · rw [d1, f1] at i1
    rw [d183, d9]
    by_cases hi : i < m 1 1
    · rw [← hC, wrL_out A _ _ i (Or.inl hi), st_row (by decide), rB 183 (by decide) (by decide), show B 9 i = m 9 i from f3 i hi]
      exact hM.2.2 i i0 hi
    · have q1 := wrL_slc (r := 183) A (st_ B 182 0 0) (m 1 1)
      rw [hC] at q1
      have q := slc_inj (q1.trans f4.symm) (i := i - m 1 1) (by omega) (by omega)
      rw [show m 1 1 + (i - m 1 1) = i by omega] at q
      exact q
theorem IV.clear {m : mt_M} (h : IV m) : IV (st_ (st_ (st_ (st_ m 1 1 0) 1 2 0) 182 0 0) 182 1 0) := by
  obtain ⟨hM, hL, hT⟩ := h
  have rD : ∀ r : Nat, r ≠ 1 → r ≠ 182 → st_ (st_ (st_ (st_ m 1 1 0) 1 2 0) 182 0 0) 182 1 0 r = m r := fun r a d => by rw [st_row d, st_row d, st_row a, st_row a]
  have zD : ∀ z : Int, z ≠ 0 → z ≠ 1 → st_ (st_ (st_ (st_ m 1 1 0) 1 2 0) 182 0 0) 182 1 0 182 z = m 182 z := fun z a b => by rw [st_ne (by omega), st_ne (by omega), st_row (by decide), st_row (by decide)]
  have d1 : st_ (st_ (st_ (st_ m 1 1 0) 1 2 0) 182 0 0) 182 1 0 1 1 = 0 := by rw [st_row (by decide), st_row (by decide), st_ne (by decide), st_same]
  refine ⟨⟨⟨⟨by decide, by decide⟩, by rw [d1]; exact Int.le_refl _, by rw [d1]; decide, fun i i0 i1 => by rw [d1] at i1; omega⟩, by rw [st_same, d1], fun i i0 i1 => by rw [d1] at i1; omega⟩, hL.mov (rD _ (by decide) (by decide)) (rD _ (by decide) (by decide)) (zD _ (by decide) (by decide)) (rD _ (by decide) (by decide)),
    hT.mov (fun r q => rD r (by omega) (by omega)) (zD _ (by decide) (by decide)) (zD _ (by decide) (by decide)) (zD _ (by decide) (by decide)) (rD _ (by decide) (by decide)) (rD _ (by decide) (by decide)) (rD _ (by decide) (by decide))⟩
/-- read -/
theorem IV.read {m m1 m2 : mt_M} {f g : Int → Int} (h : IV m) (hf : ∀ i : Int, 0 ≤ i → i < m 1 1 → f i = m 9 i) (hC : RC m1 (rd0 f (m 1 1))) (h1 : ∀ r : Nat, (r ≤ 2 ∨ (8 ≤ r ∧ r ≤ 10) ∨ r = 16 ∨ (19 ≤ r ∧ r ≤ 21) ∨ (38 ≤ r ∧ r ≤ 53) ∨ 182 ≤ r) → m1 r = m r)
    (hg : ∀ i : Int, 0 ≤ i → i < m 1 1 → g i = m1 183 i) (hE : RepE m2 (rd0 g (m 1 1))) (hn : m2 182 5 = (rd0 g (m 1 1)).length) (h16 : (rd0 g (m 1 1)).length ≤ 16) (htb : tb_ m2) (hr : m2 182 3 = 1) (hR : fR_ m1 m2) : rd0 f (m 1 1) = rd0 g (m 1 1) ∧ IV m2 := by
  obtain ⟨hM, hL, hT⟩ := h
  have e183 : m1 183 = m 183 := h1 183 (by omega)
  have eq : rd0 f (m 1 1) = rd0 g (m 1 1) := rd0_ext hM.1.2.1 (fun i i0 i1 => by rw [hf i i0 i1, hg i i0 i1, e183, hM.2.2 i i0 i1])
  have r2 : ∀ r : Nat, r ≠ 182 → r ≠ 184 → r ≠ 187 → r ≠ 186 → r ≠ 185 → r ≠ 188 → r ≠ 189 → m2 r = m1 r := fun r a b c d e f' g' => by
    funext z; exact hR r z b c d e f' g' (Or.inl a)
  refine ⟨eq, hM.mov ?_ ?_ ?_ ?_, hL.mov ?_ ?_ ?_ ?_, rd0 g (m 1 1), ?_, ⟨hE, hn, h16, htb⟩, Or.inr ⟨hr, ?_⟩⟩
  · rw [r2 1 (by decide) (by decide) (by decide) (by decide) (by decide) (by decide) (by decide)]; exact h1 1 (by omega)
  · rw [r2 9 (by decide) (by decide) (by decide) (by decide) (by decide) (by decide) (by decide)]; exact h1 9 (by omega)
  · rw [hR 182 1 (by decide) (by decide) (by decide) (by decide) (by decide) (by decide) (Or.inr (by decide)), h1 182 (by omega)]
  · rw [r2 183 (by decide) (by decide) (by decide) (by decide) (by decide) (by decide) (by decide)]; exact e183
  · rw [r2 2 (by decide) (by decide) (by decide) (by decide) (by decide) (by decide) (by decide)]; exact h1 2 (by omega)
  · rw [r2 10 (by decide) (by decide) (by decide) (by decide) (by decide) (by decide) (by decide)]; exact h1 10 (by omega)
  · rw [hR 182 20 (by decide) (by decide) (by decide) (by decide) (by decide) (by decide) (Or.inr (by decide)), h1 182 (by omega)]
  · rw [r2 191 (by decide) (by decide) (by decide) (by decide) (by decide) (by decide) (by decide)]; exact h1 191 (by omega)
  · rw [← eq]
    exact hC.mov (fun r q => r2 r (by omega) (by omega) (by omega) (by omega) (by omega) (by omega) (by omega))
  · obtain ⟨a, b, c⟩ := rd0_inv g (m 1 1)
    exact ⟨a, b, c, rd0_nb g (m 1 1)⟩
/-- written -/
theorem IV.wrote {m m1 m2 : mt_M} {W : List Int} (h : IV m) (w1 : m1 2 1 = W.length) (w2 : slc (m1 10) 0 W.length = W) (w3 : bw_ m1 2) (w4 : ∀ r : Nat, r ≠ 2 → r ≠ 10 → r ≠ 8 → r ≠ 16 → r ≠ 194 → m1 r = m r) (hZ : fZ_ m1 m2) (v1 : m2 182 20 = W.length) (v2 : slc (m2 191) 0 W.length = W) : IV m2 := by
  obtain ⟨hM, hL, hT⟩ := h
  obtain ⟨z1, z2⟩ := hZ
  have r1 : ∀ r : Nat, r ≠ 2 → r ≠ 10 → r ≠ 8 → r ≠ 16 → r ≠ 194 → r ≠ 182 → r ≠ 190 → r ≠ 192 → r ≠ 193 → r ≠ 191 → m2 r = m r := fun r a b c d e f g h' i j => by rw [z2 r f g h' i j, w4 r a b c d e]
  have y1 : ∀ z : Int, z ≠ 17 → z ≠ 19 → z ≠ 22 → z ≠ 0 → z ≠ 20 → m2 182 z = m 182 z := fun z a b c d e => by rw [z1 z a b c d e, w4 182 (by decide) (by decide) (by decide) (by decide) (by decide)]
  have d2 : m2 2 = m1 2 := z2 2 (by decide) (by decide) (by decide) (by decide) (by decide)
  have d10 : m2 10 = m1 10 := z2 10 (by decide) (by decide) (by decide) (by decide) (by decide)
  refine ⟨hM.mov (r1 _ (by decide) (by decide) (by decide) (by decide) (by decide) (by decide) (by decide) (by decide) (by decide) (by decide)) (r1 _ (by decide) (by decide) (by decide) (by decide) (by decide) (by decide) (by decide) (by decide) (by decide) (by decide)) (y1 _ (by decide) (by decide) (by decide) (by decide) (by decide)) (r1 _ (by decide) (by decide) (by decide) (by decide) (by decide) (by decide) (by decide) (by decide) (by decide) (by decide)),
    ⟨w3.mov d2 d10, by rw [v1, d2, w1], fun i i0 i1 => ?_⟩,
    hT.mov (fun r q => r1 r (by omega) (by omega) (by omega) (by omega) (by omega) (by omega) (by omega) (by omega) (by omega) (by omega)) (y1 _ (by decide) (by decide) (by decide) (by decide) (by decide)) (y1 _ (by decide) (by decide) (by decide) (by decide) (by decide)) (y1 _ (by decide) (by decide) (by decide) (by decide) (by decide)) (r1 _ (by decide) (by decide) (by decide) (by decide) (by decide) (by decide) (by decide) (by decide) (by decide) (by decide)) (r1 _ (by decide) (by decide) (by decide) (by decide) (by decide) (by decide) (by decide) (by decide) (by decide) (by decide)) (r1 _ (by decide) (by decide) (by decide) (by decide) (by decide) (by decide) (by decide) (by decide) (by decide) (by decide))⟩
  rw [d2, w1] at i1
  have q := slc_inj (v2.trans w2.symm) (i := i) i0 (by omega)
  rw [Int.zero_add] at q
  rw [d10]; exact q
/-- not written -/
theorem IV.full {m m1 m2 : mt_M} (h : IV m) (w4 : ∀ r : Nat, r ≠ 8 → r ≠ 16 → m1 r = m r) (hZ : fZ_ m1 m2) (v1 : m2 182 20 = m1 182 20) (v2 : m2 191 = m1 191) : IV m2 := by
  obtain ⟨hM, hL, hT⟩ := h
  obtain ⟨z1, z2⟩ := hZ
  have r1 : ∀ r : Nat, r ≠ 8 → r ≠ 16 → r ≠ 182 → r ≠ 190 → r ≠ 192 → r ≠ 193 → r ≠ 191 → m2 r = m r := fun r c d f g h' i j => by rw [z2 r f g h' i j, w4 r c d]
  have y1 : ∀ z : Int, z ≠ 17 → z ≠ 19 → z ≠ 22 → z ≠ 0 → z ≠ 20 → m2 182 z = m 182 z := fun z a b c d e => by rw [z1 z a b c d e, w4 182 (by decide) (by decide)]
  exact ⟨hM.mov (r1 _ (by decide) (by decide) (by decide) (by decide) (by decide) (by decide) (by decide)) (r1 _ (by decide) (by decide) (by decide) (by decide) (by decide) (by decide) (by decide)) (y1 _ (by decide) (by decide) (by decide) (by decide) (by decide)) (r1 _ (by decide) (by decide) (by decide) (by decide) (by decide) (by decide) (by decide)),
    hL.mov (r1 _ (by decide) (by decide) (by decide) (by decide) (by decide) (by decide) (by decide)) (r1 _ (by decide) (by decide) (by decide) (by decide) (by decide) (by decide) (by decide)) (by rw [v1, w4 182 (by decide) (by decide)]) (by rw [v2, w4 191 (by decide) (by decide)]),
    hT.mov (fun r q => r1 r (by omega) (by omega) (by omega) (by omega) (by omega) (by omega) (by omega)) (y1 _ (by decide) (by decide) (by decide) (by decide) (by decide)) (y1 _ (by decide) (by decide) (by decide) (by decide) (by decide)) (y1 _ (by decide) (by decide) (by decide) (by decide) (by decide)) (r1 _ (by decide) (by decide) (by decide) (by decide) (by decide) (by decide) (by decide)) (r1 _ (by decide) (by decide) (by decide) (by decide) (by decide) (by decide) (by decide)) (r1 _ (by decide) (by decide) (by decide) (by decide) (by decide) (by decide) (by decide))⟩
/-- again -/
theorem IV.again {m m1 : mt_M} {N : Int} (h : IV m) (hN : N = min (m 2 1) 320) (a1 : m1 1 1 = N) (a2 : slc (m1 9) 0 N = slc (m 10) 0 N) (a3 : bw_ m1 1) (a4 : ∀ r : Nat, r ≠ 1 → r ≠ 9 → m1 r = m r) : IV (wrL (st_ (st_ m1 182 0 0) 182 1 N) 183 0 (slc (m1 191) 0 N)) := by
  obtain ⟨hM, hL, hT⟩ := h
  have hs0 := hL.1.2.1
  have hN0 : 0 ≤ N := by omega
  have e191 : m1 191 = m 191 := a4 191 (by decide) (by decide)
  have hlen : ((slc (m1 191) 0 N).length : Int) = N := by rw [slc_lenI hN0]; omega
  generalize hC : wrL (st_ (st_ m1 182 0 0) 182 1 N) 183 0 (slc (m1 191) 0 N) = C
  have rC : ∀ r : Nat, r ≠ 183 → r ≠ 182 → C r = m1 r := fun r a b => by rw [← hC, wrL_row a, st_row b, st_row b]
  have c182 : C 182 = st_ (st_ m1 182 0 0) 182 1 N 182 := by rw [← hC, wrL_row (by decide)]
  have rD : ∀ r : Nat, r ≠ 1 → r ≠ 9 → r ≠ 183 → r ≠ 182 → C r = m r := fun r a b c d => by rw [rC r c d, a4 r a b]
  have zD : ∀ z : Int, z ≠ 0 → z ≠ 1 → C 182 z = m 182 z := fun z a b => by rw [c182, st_ne (by omega), st_ne (by omega), a4 182 (by decide) (by decide)]
  have c1 : C 1 = m1 1 := rC 1 (by decide) (by decide)
  have c9 : C 9 = m1 9 := rC 9 (by decide) (by decide)
  refine ⟨⟨a3.mov c1 c9, by rw [c182, st_same, c1, a1], fun i i0 i1 => ?_⟩, hL.mov (rD _ (by decide) (by decide) (by decide) (by decide)) (rD _ (by decide) (by decide) (by decide) (by decide)) (zD _ (by decide) (by decide)) (rD _ (by decide) (by decide) (by decide) (by decide)),
    hT.mov (fun r q => rD r (by omega) (by omega) (by omega) (by omega)) (zD _ (by decide) (by decide)) (zD _ (by decide) (by decide)) (zD _ (by decide) (by decide)) (rD _ (by decide) (by decide) (by decide) (by decide)) (rD _ (by decide) (by decide) (by decide) (by decide)) (rD _ (by decide) (by decide) (by decide) (by decide))⟩
  rw [c1, a1] at i1
  rw [c9]
  have q1 := wrL_slc (r := 183) (slc (m1 191) 0 N) (st_ (st_ m1 182 0 0) 182 1 N) 0
  rw [hC, hlen, Int.zero_add] at q1
  have p1 := slc_inj q1 (i := i) i0 (by omega)
  have p2 := slc_inj a2 (i := i) i0 (by omega)
  rw [Int.zero_add] at p1 p2
  rw [p1, p2, e191]
  exact hL.2.2 i i0 (by omega)
