/-! The reference: read. -/
/-- the pile's ranges, the highest first: one behind the other, from lo on, in n; depths and numbers of what they are part of -/
def chS : Int → Int → Int → List mt_R → Prop
  | _, _, _, [] => True
  | lo, n, k, x :: t => lo ≤ x.1 ∧ x.1 ≤ x.2.1 ∧ x.2.1 ≤ n ∧ (1 ≤ x.2.2.1 ∧ x.2.2.1 ≤ 4) ∧ -1 ≤ x.2.2.2 ∧ x.2.2.2 < k ∧ chS (x.2.1 + 3) n k t
theorem chS.mono {n : Int} : ∀ {xs : List mt_R} {lo lo' k k' : Int}, chS lo n k xs → lo' ≤ lo → k ≤ k' → chS lo' n k' xs
  | [], _, _, _, _, _, _, _ => trivial
  | x :: t, lo, lo', k, k', h, h1, h2 => ⟨by have := h.1; omega, h.2.1, h.2.2.1, h.2.2.2.1, h.2.2.2.2.1, by have := h.2.2.2.2.2.1; omega, chS.mono h.2.2.2.2.2.2 (Int.le_refl _) h2⟩
theorem chS.len {n : Int} : ∀ {xs : List mt_R} {lo k : Int}, chS lo n k xs → lo ≤ n + 3 → 3 * (xs.length : Int) ≤ n + 3 - lo
  | [], _, _, _, h => by simp; omega
  | x :: t, lo, k, h, h1 => by
    have := chS.len h.2.2.2.2.2.2 (by have := h.2.2.1; omega)
    have := h.1
    have := h.2.1
    simp only [List.length_cons]
    omega
theorem chS.app {n s k d i : Int} (hd : 1 ≤ d ∧ d ≤ 4) (hi : -1 ≤ i) (hik : i < k) (hs : s ≤ n) : ∀ {PL : List (Int × Int)} {xs : List mt_R} {lo : Int}, chR lo s PL → chS (s + 3) n k xs → lo ≤ s + 3 → chS lo n k (PL.map (fun q => (q.1, q.2, d, i)) ++ xs)
  | [], xs, lo, _, h, h1 => h.mono h1 (Int.le_refl _)
  | q :: t, xs, lo, hc, h, h1 => by
    refine ⟨hc.1, hc.2.1, ?_, hd, hi, hik, ?_⟩
    · have := hc.2.2.1; show q.2 ≤ n; omega
    · exact chS.app hd hi hik hs hc.2.2.2 h (by have := hc.2.2.1; show q.2 + 3 ≤ s + 3; omega)
theorem chR.map {s : Int} : ∀ {PL : List (Int × Int)} {lo lo' : Int}, chR lo s PL → lo' ≤ lo → chR lo' s PL
  | [], _, _, _, _ => trivial
  | q :: t, lo, lo', h, h1 => ⟨by have := h.1; omega, h.2⟩
/-- the children of a range, and what was below it -/
theorem chE_ch {f : Int → Int} {x : mt_R} {n k i lo : Int} {xs : List mt_R} (h : chS lo n k (x :: xs)) (hi : -1 ≤ i) (hik : i < k + 1) (hki : k ≤ k + 1) : chS (if (eK f x).1 = 0 then x.2.1 else (eF f x).2) n (k + 1) (chE f x i ++ xs) := by
  obtain ⟨h1, h2, h3, h4, h5, h6, h7⟩ := h
  have hF := flds_inv (f := f) h2
  have hKb := kndO_b (fnd w_ctype (eF f x).1) x.2.2.1
  have hK : eK f x = kndO_ (fnd w_ctype (eF f x).1) x.2.2.1 := rfl
  rw [← hK] at hKb
  have hd4 : (eK f x).1 ≠ 0 → x.2.2.1 ≠ 4 := fun z y => z (by rw [hK, y]; unfold kndO_; split; rfl; rw [if_pos rfl])
  have hF1 : x.1 ≤ (eF f x).2 := hF.1
  have hF2 : (eF f x).2 ≤ x.2.1 := hF.2.1
  rcases hKb.1 with hk | hk | hk
  · have e1 : chE f x i = [] := by unfold chE; rw [if_neg (by omega), if_neg (by omega)]
    rw [if_pos hk, e1]
    exact h7.mono (by omega) hki
  · have e1 : chE f x i = (parts_ f (eF f x).2 x.2.1 (eK f x).2).map (fun q => (q.1, q.2, x.2.2.1 + 1, i)) := by unfold chE; rw [if_neg (by omega), if_pos hk]
    have := hd4 (by omega)
    rw [if_neg (by omega), e1]
    refine chS.app (by omega) hi hik h3 ?_ (h7.mono (Int.le_refl _) hki) (by omega)
    have hb := of_decide_eq_true (hKb.2.1 hk)
    exact pts_ch (by omega) _ _ _ _ _ hF2 (Nat.le_refl _) (Int.le_refl _) (fun b hb => by cases hb) (fun _ => Int.le_refl _)
  · have e1 : chE f x i = [((eF f x).2, x.2.1, x.2.2.1 + 1, i)] := by unfold chE; rw [if_pos hk]
    have := hd4 (by omega)
    rw [if_neg (by omega), e1]
    refine ⟨Int.le_refl _, hF2, h3, ?_, hi, hik, h7.mono (Int.le_refl _) hki⟩
    show 1 ≤ x.2.2.1 + 1 ∧ x.2.2.1 + 1 ≤ 4
    omega
def rd0 (f : Int → Int) (n : Int) : List mt_E := rdS f 6500 [(0, n, 1, -1)] []
/-- what reading leaves alone -/
def fR_ (mem m : mt_M) : Prop := ∀ (r : Nat) (z : Int), r ≠ 184 → r ≠ 187 → r ≠ 186 → r ≠ 185 → r ≠ 188 → r ≠ 189 → (r ≠ 182 ∨ (z ≠ 0 ∧ z ≠ 3 ∧ z ≠ 13 ∧ z ≠ 14 ∧ z ≠ 15 ∧ z ≠ 16 ∧ z ≠ 9 ∧ z ≠ 10 ∧ z ≠ 5)) → m r z = mem r z
theorem cM_read {G : mt_G} {l : Launch} {mem : mt_M} {n : Int} (hn : mem 182 1 = n) (hn0 : 0 ≤ n) (hn1 : n ≤ 320) (hb : by_ (mem 183) 0 n) : CT G l y_M_read c_M_read 2 (some .int) 8 [vr G 182] mem (fun v m' => ∃ f : Int → Int, m' 184 = f ∧ (∀ i : Int, 0 ≤ i → i < n → f i = mem 183 i) ∧ v = some (vi (rd0 f n).length) ∧ RepE m' (rd0 f n) ∧ m' 182 5 = (rd0 f n).length ∧ (rd0 f n).length ≤ 16 ∧ tb_ m' ∧ m' 182 3 = 1 ∧ m' 182 0 = 0 ∧ fR_ mem m') := by
  refine CT.intro (by decide) rfl (Nat.le_of_ble_eq_true rfl) (fun X h he => ?_)
  have wl : ∀ (j : Nat) (m : mt_M) (L : List mt_E) (xs : List mt_R) (lo : Int) (k : Nat) (f : Int → Int) (y : Option Value), (16 - L.length) * 400 + xs.length = j → j ≤ k → m 184 = f → (∀ i : Int, 0 ≤ i → i < n → f i = mem 183 i) → RepE m L → m 182 5 = L.length → L.length ≤ 16 → rg_ m xs.reverse → chS lo n L.length xs → 0 ≤ lo → lo ≤ n + 3 → tb_ m → m 182 9 ≤ 2 * lo + 20 * L.length → m 182 3 = 1 → m 182 0 = 0 → fR_ mem m → rd0 f n = rdS f k xs L → JJ G X 0 0 m 64 [some (vr G 182), y] [] := by
    intro j
    induction j using Nat.strongRecOn with
    | ind j ih =>
      intro m L xs lo k f y w1 w2 w3 w4 w5 w6 w7 w8 w9 w10 w11 w12 w13 w14 w15 w16 w17
      have hp9 := w8.1
      rw [List.length_reverse] at hp9
      have hlen := w9.len w11
      cases xs with
      | nil =>
        have e1 : rdS f k [] L = L := by cases k <;> rfl
        rw [e1] at w17
        refine jj_aload_n h d_M_read_64 rfl ⟨_, rfl⟩ ?_
        refine jj_g_M_pile h  fl_M_175 d_M_read_65 ?_
        try simp only [hp9, w6]
        refine jj_if_le h 78 d_M_read_68 (by decide) ⟨by decide, by decide⟩ (fun _ => ?_) (fun q68 => absurd ((by decide)) q68)
        refine jj_aload_n h d_M_read_78 rfl ⟨_, rfl⟩ ?_
        refine jj_g_M_entities h  fl_M_196 d_M_read_79 ?_
        try simp only [hp9, w6]
        refine jj_iret h he d_M_read_82 ?_
        exact ⟨f, w3, w4, by rw [w17], by rw [w17]; exact w5, by rw [w17]; exact w6, by rw [w17]; exact w7, w12, w14, w15, w16⟩
      | cons x t =>
        rw [List.reverse_cons] at w8
        rw [List.length_cons] at hlen hp9 w1
        obtain ⟨c1, c2, c3, c4, c5, c6, c7⟩ := w9
        have hbs : by_ (m 184) x.1 x.2.1 := by rw [w3]; intro i i0 i1; rw [w4 i (by omega) (by omega)]; exact hb i (by omega) (by omega)
        obtain ⟨k, rfl⟩ : ∃ k', k = k' + 1 := ⟨k - 1, by omega⟩
        refine jj_aload_n h d_M_read_64 rfl ⟨_, rfl⟩ ?_
        refine jj_g_M_pile h  fl_M_175 d_M_read_65 ?_
        try simp only [hp9]
        refine jj_if_le h 78 d_M_read_68 (by decide) ⟨by omega, by omega⟩ (fun q68 => absurd q68 (by omega)) (fun _ => ?_)
        refine jj_aload_n h d_M_read_71 rfl ⟨_, rfl⟩ ?_
        refine jj_callV h (cM_takeEntity w5 w6 w7 w8 (by omega) c2 (by omega) c4 c5 c6 hbs w12 (by omega) (by rw [List.length_reverse]; omega)) cv_M_221 (ro_of he (by decide) (by decide)) rfl rfl (by decide) rfl rfl rfl (Nat.le_of_ble_eq_true rfl) d_M_read_72 (fun v m72 hv => ?_)
        obtain ⟨rfl, t1, t2, t3, t4, t5, t6, t7⟩ := hv
        rw [w3] at t1 t2 t3 t5
        have s7 : m72 184 = f := by funext z; rw [t7 _ _ (by decide) (by decide) (by decide) (by decide) (by decide) (Or.inl (by decide)), w3]
        have r7 : m72 182 3 = 1 := by rw [t7 _ _ (by decide) (by decide) (by decide) (by decide) (by decide) (Or.inr (by decide))]; exact w14
        have h7 : m72 182 0 = 0 := by rw [t7 _ _ (by decide) (by decide) (by decide) (by decide) (by decide) (Or.inr (by decide))]; exact w15
        have f7 : fR_ mem m72 := fun r z a0 a1 a2 a3 a4 a5 a6 => by rw [t7 r z a1 a2 a3 a4 a5 (by omega)]; exact w16 r z a0 a1 a2 a3 a4 a5 a6
        refine jj_goto h 64 d_M_read_75 (by decide) ?_
        by_cases h16 : L.length = 16
        · have e1 : tk1 f L x = (L, []) := if_pos h16
          rw [e1] at t1 t2 t3
          rw [rdS, e1] at w17
          dsimp only at t1 t2 t3 w17
          have tt := t6 h16
          exact ih _ (by omega) m72 L t lo k f _ rfl (by omega) s7 w4 t1 t2 w7 (by simpa using t3) (c7.mono (by omega) (Int.le_refl _)) w10 w11 t4 (by omega) r7 h7 f7 w17
        · have e1 : tk1 f L x = (bmpI L x.2.2.2 ++ [mkE f x], chE f x L.length) := if_neg h16
          rw [e1] at t1 t2 t3
          rw [rdS, e1] at w17
          dsimp only at t1 t2 t3 w17
          have tt := t5 h16
          have ll : (bmpI L x.2.2.2 ++ [mkE f x]).length = L.length + 1 := by rw [List.length_append, bmpI_len]; rfl
          have cc := chE_ch (f := f) (x := x) (n := n) (k := L.length) (i := L.length) (lo := lo) (xs := t) ⟨c1, c2, c3, c4, c5, c6, c7⟩ (by omega) (by omega) (by omega)
          have hF := flds_inv (f := f) c2
          have hF1 : x.1 ≤ (eF f x).2 := hF.1
          have hF2 : (eF f x).2 ≤ x.2.1 := hF.2.1
          have cl := cc.len (by split <;> omega)
          refine ih _ ?_ m72 _ _ _ k f _ rfl ?_ s7 w4 t1 t2 (by omega) (by rw [List.reverse_append]; exact t3) (by rw [ll]; exact cc) (by split <;> omega) (by split <;> omega) t4 ?_ r7 h7 f7 w17
          · rw [ll]; split at cl <;> omega
          · rw [ll]; split at cl <;> omega
          · rw [ll]; split <;> (rename_i hk; first | rw [if_pos hk] at tt | rw [if_neg hk] at tt) <;> omega
  have cp : ∀ (j : Nat) (q : Int) (m : mt_M), (n - q).toNat = j → 0 ≤ q → q ≤ n → (∀ i : Int, 0 ≤ i → i < q → m 184 i = mem 183 i) → (∀ (r : Nat) (z : Int), r ≠ 184 → (r ≠ 182 ∨ z ≠ 0) → m r z = mem r z) → m 182 0 = 0 → JJ G X 0 0 m 7 [some (vr G 182), some (vi q)] [] := by
    intro j
    induction j with
    | zero =>
      intro q m j1 j2 j3 j4 j5 j6
      have hq : q = n := by omega
      subst hq
      have hfd : m 182 1 = q := by rw [j5 _ _ (by decide) (by decide)]; exact hn
      generalize hm1 : st_ (st_ (st_ (st_ m 182 3 1) 182 5 0) 182 9 0) 182 10 0 = m1
      have g1 : ∀ (r : Nat) (z : Int), (r ≠ 182 ∨ (z ≠ 3 ∧ z ≠ 5 ∧ z ≠ 9 ∧ z ≠ 10)) → m1 r z = m r z := fun r z a => by rw [← hm1, st_ne (by omega), st_ne (by omega), st_ne (by omega), st_ne (by omega)]
      have hfd1 : m1 182 1 = q := by rw [g1 _ _ (by decide)]; exact hfd
      have hrg : rg_ m1 [] := ⟨by rw [← hm1, st_same]; rfl, fun i y hy => by simp at hy⟩
      refine jj_iload_n h d_M_read_7 rfl ?_
      refine jj_aload_n h d_M_read_8 rfl ⟨_, rfl⟩ ?_
      refine jj_g_M_fed h  fl_M_47 d_M_read_9 ?_
      try simp only [st_at, Nat.reduceEqDiff, Int.reduceEq, and_self, true_and, and_true, false_and, and_false, reduceIte, hfd, hfd1]
      refine jj_icmp_ge h 33 d_M_read_12 (by decide) ⟨by omega, by omega⟩ ⟨by omega, by omega⟩ (fun _ => ?_) (fun q12 => absurd (by omega) q12)
      refine jj_aload_n h d_M_read_33 rfl ⟨_, rfl⟩ ?_
      refine jj_iconst h d_M_read_34 ?_
      refine jj_p_M_read h  fl_M_217 (by omega) d_M_read_35 ?_
      refine jj_aload_n h d_M_read_38 rfl ⟨_, rfl⟩ ?_
      refine jj_iconst h d_M_read_39 ?_
      refine jj_p_M_entities h  fl_M_196 d_M_read_40 ?_
      refine jj_aload_n h d_M_read_43 rfl ⟨_, rfl⟩ ?_
      refine jj_iconst h d_M_read_44 ?_
      refine jj_p_M_textSize h  fl_M_56 d_M_read_45 ?_
      refine jj_aload_n h d_M_read_48 rfl ⟨_, rfl⟩ ?_
      refine jj_iconst h d_M_read_49 ?_
      refine jj_p_M_pile h  fl_M_175 d_M_read_50 ?_
      rw [hm1]
      refine jj_aload_n h d_M_read_53 rfl ⟨_, rfl⟩ ?_
      refine jj_iconst h d_M_read_54 ?_
      refine jj_aload_n h d_M_read_55 rfl ⟨_, rfl⟩ ?_
      refine jj_g_M_fed h  fl_M_47 d_M_read_56 ?_
      try simp only [st_at, Nat.reduceEqDiff, Int.reduceEq, and_self, true_and, and_true, false_and, and_false, reduceIte, hfd, hfd1]
      refine jj_iconst h d_M_read_59 ?_
      refine jj_iconst h d_M_read_60 ?_
      refine jj_callV h (cM_lay (x := (0, q, 1, -1)) hrg (by decide)) cv_M_211 (ro_of he (by decide) (by decide)) rfl rfl (by decide) rfl rfl rfl (Nat.le_of_ble_eq_true rfl) d_M_read_61 (fun v m61 hv => ?_)
      obtain ⟨rfl, l1, l2⟩ := hv
      refine wl _ m61 [] [(0, q, 1, -1)] 0 6500 (m61 184) _ rfl (Nat.le_of_ble_eq_true rfl) rfl (fun i i0 i1 => ?_) (fun i E hE => by simp at hE) ?_ (by decide) (by simpa using l1) ⟨Int.le_refl _, hn0, Int.le_refl _, (show (1 : Int) ≤ 1 ∧ (1 : Int) ≤ 4 by decide), (show (-1 : Int) ≤ -1 by decide), (show (-1 : Int) < 0 by decide), trivial⟩ (by decide) (by omega) ⟨?_, ?_, ?_⟩ ?_ ?_ ?_ (fun r z a0 a1 a2 a3 a4 a5 a6 => ?_) rfl
      · rw [l2 _ _ (by decide) (Or.inl (by decide)), g1 _ _ (Or.inl (by decide))]; exact j4 i i0 i1
      · rw [l2 _ _ (by decide) (Or.inr (by decide)), ← hm1, st_ne (by decide), st_ne (by decide), st_same]; rfl
      · rw [l2 _ _ (by decide) (Or.inr (by decide)), ← hm1, st_ne (by decide), st_same]; decide
      · rw [l2 _ _ (by decide) (Or.inr (by decide)), ← hm1, st_ne (by decide), st_same]; decide
      · rw [l2 _ _ (by decide) (Or.inr (by decide)), ← hm1, st_ne (by decide), st_same]; intro i i0 i1; omega
      · rw [l2 _ _ (by decide) (Or.inr (by decide)), ← hm1, st_ne (by decide), st_same]; decide
      · rw [l2 _ _ (by decide) (Or.inr (by decide)), ← hm1, st_ne (by decide), st_ne (by decide), st_ne (by decide), st_same]
      · rw [l2 _ _ (by decide) (Or.inr (by decide)), g1 _ _ (by decide)]; exact j6
      · rw [l2 r z a4 (by omega), g1 r z (by omega)]; exact j5 r z a0 (by omega)
    | succ j ih =>
      intro q m j1 j2 j3 j4 j5 j6
      have hfd : m 182 1 = n := by rw [j5 _ _ (by decide) (by decide)]; exact hn
      have hms : m 183 = mem 183 := by funext z; exact j5 _ _ (by decide) (Or.inl (by decide))
      refine jj_iload_n h d_M_read_7 rfl ?_
      refine jj_aload_n h d_M_read_8 rfl ⟨_, rfl⟩ ?_
      refine jj_g_M_fed h  fl_M_47 d_M_read_9 ?_
      try simp only [hfd, hms]
      refine jj_icmp_ge h 33 d_M_read_12 (by decide) ⟨by omega, by omega⟩ ⟨by omega, by omega⟩ (fun q12 => absurd q12 (by omega)) (fun _ => ?_)
      refine jj_aload_n h d_M_read_15 rfl ⟨_, rfl⟩ ?_
      refine jj_g_M_src h  fl_M_13 d_M_read_16 ?_
      try simp only [hfd, hms]
      refine jj_iload_n h d_M_read_19 rfl ?_
      refine jj_aload_n h d_M_read_20 rfl ⟨_, rfl⟩ ?_
      refine jj_g_M_message h  fl_M_7 d_M_read_21 ?_
      try simp only [hfd, hms]
      refine jj_iload_n h d_M_read_24 rfl ?_
      refine jj_iaload (N := 320) h (by decide) rfl (by decide) (by omega) (by omega) d_M_read_25 ?_
      try simp only [hfd, hms]
      refine jj_iastore (N := 320) h (by decide) (fun _ => rfl) (by decide) (by omega) (by omega) d_M_read_26 ?_
      refine jj_iinc h d_M_read_27 rfl rfl ?_
      refine jj_goto h 7 d_M_read_30 (by decide) ?_
      refine ih (q + 1) _ (by omega) (by omega) (by omega) (fun i i0 i1 => ?_) (fun r z a b => by rw [st_ne (Or.inl a)]; exact j5 r z a b) (by rw [st_ne (Or.inl (by decide))]; exact j6)
      rw [st_at]
      by_cases hi : i = q
      · rw [if_pos ⟨rfl, hi⟩, hi]
      · rw [if_neg (fun z => hi z.2)]; exact j4 i i0 (by omega)
  refine jj_aload_n h d_M_read_0 rfl ⟨_, rfl⟩ ?_
  refine jj_iconst h d_M_read_1 ?_
  refine jj_p_M_thrown h  fl_M_43 d_M_read_2 ?_
  refine jj_iconst h d_M_read_5 ?_
  refine jj_istore_n h d_M_read_6 (Nat.le_of_ble_eq_true rfl) rfl ?_
  exact cp _ 0 _ rfl (by omega) hn0 (fun i i0 i1 => by omega) (fun r z a b => by rw [st_ne b]) st_same
