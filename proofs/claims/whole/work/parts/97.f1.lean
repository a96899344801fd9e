/-! The class: an entity is read. -/
/-- a new entity -/
def eN_ (m : mt_M) (k : Nat) (b e d w : Int) : Prop := m k 0 = 0 ∧ m k 1 = d ∧ m k 2 = w ∧ m k 3 = 0 ∧ m k 4 = 0 ∧ m k 5 = b ∧ m k 6 = b ∧ m k 7 = e ∧ m k 8 = 0 ∧ m k 9 = 0 ∧ m k 10 = 0 ∧ m k 11 = 0 ∧ m k 12 = 0
theorem es_eN {m : mt_M} {r : Nat} {a b d w : Int} : eN_ (es_ m r a b d w) r a b d w := by
  unfold eN_ es_
  simp only [st_at, Int.reduceEq, and_self, and_true, and_false, reduceIte]
theorem es_row {m : mt_M} {r k : Nat} {a b d w : Int} (h : k ≠ r) : es_ m r a b d w k = m k := by
  unfold es_
  rw [st_row h, st_row h, st_row h, st_row h, st_row h, st_row h, st_row h, st_row h, st_row h, st_row h, st_row h, st_row h, st_row h]
/-- old entities with one part more, and a new one -/
theorem RC_new {mem m : mt_M} {L : List mt_E} {E : mt_E} {par : Int} (hL : RC mem L) (h16 : L.length < 16) (hp : -1 ≤ par) (hpl : par < L.length)
    (ho : ∀ i : Nat, i < L.length → (∀ z : Int, z ≠ 4 → m (22 + i) z = mem (22 + i) z) ∧ m (22 + i) 4 = mem (22 + i) 4 + (if par = i then 1 else 0) ∧ ∀ f : Nat, f < 8 → m (54 + 8 * i + f) = mem (54 + 8 * i + f))
    (h3 : m 3 = mem 3) (h11 : m 11 = mem 11) (u4 : up_ mem m 4) (u5 : up_ mem m 5) (u6 : up_ mem m 6) (b4 : bw_ m 4) (b5 : bw_ m 5) (b6 : bw_ m 6) (b7 : bw_ m 7) (hc : m 17 7 = L.length + 1) (hE : cE m L.length E) : RC m (bmpI L par ++ [E]) := by
  have hlen : (bmpI L par ++ [E]).length = L.length + 1 := by rw [List.length_append, bmpI_len]; rfl
  refine ⟨by rw [hlen, hc]; omega, by rw [hlen]; omega, fun N E' hN => ?_, hL.2.2.2.1.mov h3 h11, b4, b5, b6, b7⟩
  rcases get_snoc hN with ⟨hN1, hN2⟩ | ⟨rfl, rfl⟩
  · rw [bmpI_len] at hN1
    obtain ⟨o1, o2, o3⟩ := ho N hN1
    by_cases hn : par < 0
    · have e1 : bmpI L par = L := if_pos hn
      rw [e1] at hN2
      have hD := hL.2.2.1 N E' hN2
      rw [if_neg (by omega)] at o2
      exact hD.gen rfl (fun _ _ => rfl) o1 (by rw [o2, hD.1.2.2.2.2.1]; omega) o3 (by rw [h3]) h11 u4 u5 u6
    · have e1 : bmpI L par = bmp L par.toNat := if_neg hn
      rw [e1] at hN2
      obtain ⟨D, d1, d2, d3⟩ := bmp_get L par.toNat N E' hN2
      have hD := hL.2.2.1 N D d1
      refine hD.gen d2 (fun w hw => by rw [d3 w, if_neg (fun z => hw z.2)]) o1 ?_ o3 (by rw [h3]) h11 u4 u5 u6
      rw [d3 6, o2, hD.1.2.2.2.2.1]
      by_cases hi : par = N
      · rw [if_pos hi, if_pos ⟨by omega, rfl⟩]
      · rw [if_neg hi, if_neg (fun z => hi (by omega))]; omega
  · rw [bmpI_len]; exact hE
theorem wd_not {t : List Int} (h : wd_ w_message t = true) : ¬ wd_ w_multipart t = true := by
  intro z
  have h1 := of_decide_eq_true h
  have h2 := of_decide_eq_true z
  rw [h1] at h2
  exact absurd h2 (by decide)
set_option maxHeartbeats 6000000 in
theorem cT_readEntity {G : mt_G} : ∀ (j : Nat) (l : Launch) (mem : mt_M) (L : List mt_E) (y : mt_R), y.2.2.1 = 5 - (j : Int) → 1 ≤ j → j ≤ 4 → RB mem L y.1 → 0 ≤ y.1 → y.1 ≤ y.2.1 → y.2.1 ≤ mem 3 1 → -1 ≤ y.2.2.2 → y.2.2.2 < L.length → CT G l y_T_readEntity c_T_readEntity 7 none (9 + 2 * j) [vr G 17, vi y.1, vi y.2.1, vi y.2.2.1, vi y.2.2.2] mem (fun v m' => v = none ∧ RB m' (rdT (mem 11) j y L) y.2.1 ∧ fC mem m') := by
  intro j
  induction j with
  | zero => intro l mem L y _ h; exact absurd h (by decide)
  | succ j ih =>
    intro l mem L y hdj hj1 hj4 hRB b0 b1 e1 hp hpl
    have hl9 : ln_ (3 + 8) = 320 := rfl
    have hw := hRB.1.2.2.2.1
    have h4 := hRB.1.2.2.2.2.1
    have h5 := hRB.1.2.2.2.2.2.1
    have h6 := hRB.1.2.2.2.2.2.2.1
    have h7 := hRB.1.2.2.2.2.2.2.2
    have hsz := hw.2.2.1
    have c17 := hRB.1.1
    have c16 := hRB.1.2.1
    refine CT.intro (by decide) rfl (Nat.le_of_ble_eq_true rfl) (fun X h he => ?_)
    by_cases h16 : L.length = 16
    · rw [rdT_16 h16] at he
      refine jj_aload_n h d_T_readEntity_0 rfl ⟨_, rfl⟩ ?_
      refine jj_g_T_count h  fl_T_54 d_T_readEntity_1 ?_
      try simp only [c17]
      refine jj_if_lt h 21 d_T_readEntity_4 (by decide) ⟨by omega, by omega⟩ (fun q4 => absurd q4 (by omega)) (fun _ => ?_)
      refine jj_aload_n h d_T_readEntity_7 rfl ⟨_, rfl⟩ ?_
      refine jj_g_T_count h  fl_T_54 d_T_readEntity_8 ?_
      try simp only [c17]
      refine jj_bipush h d_T_readEntity_11 (by decide) ?_
      refine jj_icmp_ge h 21 d_T_readEntity_13 (by decide) ⟨by omega, by omega⟩ ⟨by omega, by omega⟩ (fun _ => ?_) (fun q13 => absurd (by omega) q13)
      refine jj_vret h he d_T_readEntity_21 ?_
      exact ⟨rfl, hRB.mono b1, fC.rf⟩
    rw [rdT_go h16] at he
    obtain ⟨b, e, d, par⟩ := y
    dsimp only at hdj hRB b0 b1 e1 hp hpl he ⊢
    generalize hx9 : ((b, e, d, par) : mt_R) = x at *
    have xb : x.1 = b := by rw [← hx9]
    have xs : x.2.1 = e := by rw [← hx9]
    have xd : x.2.2.1 = d := by rw [← hx9]
    have xp : x.2.2.2 = par := by rw [← hx9]
    generalize hf : mem 11 = f at *
    have hFi := flds_inv (f := f) (b := b) (s := e) b1
    have hFd : flds f b e = eF f x := by unfold eF; rw [xb, xs]
    have hF1 : (fl1 f e ((e - b).toNat + 1) b []).1.map (fun q => (q.1, tr_ q.2)) = (eF f x).1 := by rw [← hFd]; rfl
    have hF2 : (fl1 f e ((e - b).toNat + 1) b []).2 = (eF f x).2 := by rw [← hFd]; rfl
    rw [hFd] at hFi
    generalize hbody : (eF f x).2 = body at *
    generalize hfl : (eF f x).1 = fl at *
    have hen : eN f x = encO_ (fnd w_cte fl) := by unfold eN; rw [hfl]
    have hK : eK f x = kndO_ (fnd w_ctype fl) d := by unfold eK; rw [hfl, xd]
    have hKb := kndO_b (fnd w_ctype fl) d
    rw [← hK] at hKb
    have hNb := encO_b (fnd w_cte fl)
    rw [← hen] at hNb
    have hd4 : (eK f x).1 ≠ 0 → d ≠ 4 := fun z y => z (by rw [hK, y]; unfold kndO_; split; rfl; rw [if_pos rfl])
    have hN16 : L.length < 16 := by omega
    have hr4 := hRB.2.1
    have hr5 := hRB.2.2.1
    have hr6 := hRB.2.2.2
    generalize hNn : L.length = N at *
    -- the entity stands, but for its contents and parts
    have seg128 : ∀ m8 : mt_M, m8 17 7 = N + 1 → (∀ r : Nat, r ≠ 4 → r ≠ 12 → r ≠ 6 → r ≠ 14 → r ≠ 7 → r ≠ 15 → r ≠ 18 → r ≠ 17 → (r < 22 ∨ 37 < r) → (r < 54 + 8 * N ∨ 62 + 8 * N ≤ r) → m8 r = mem r) → (∀ i : Nat, i < N → (∀ z : Int, z ≠ 4 → m8 (22 + i) z = mem (22 + i) z) ∧ m8 (22 + i) 4 = mem (22 + i) 4 + (if par = i then 1 else 0)) → up_ mem m8 4 → up_ mem m8 6 → bw_ m8 4 → bw_ m8 6 → bw_ m8 7 → cG m8 N fl → (m8 (22 + N) 0 = (eK f x).1 ∧ m8 (22 + N) 1 = d ∧ m8 (22 + N) 2 = par ∧ m8 (22 + N) 3 = eN f x ∧ m8 (22 + N) 4 = 0 ∧ m8 (22 + N) 5 = b ∧ m8 (22 + N) 6 = body ∧ m8 (22 + N) 7 = e ∧ m8 (22 + N) 8 = 0 ∧ m8 (22 + N) 9 = 0) → (0 ≤ m8 (22 + N) 10 ∧ m8 (22 + N) 11 = (eK f x).2.length ∧ m8 (22 + N) 10 + (eK f x).2.length ≤ m8 6 1 ∧ slc (m8 14) (m8 (22 + N) 10) (m8 (22 + N) 10 + (eK f x).2.length) = (eK f x).2) → m8 4 1 ≤ body → m8 6 1 ≤ 20 * ((N : Int) + 1) → JJ G X 0 0 m8 128 [some (vr G 17), some (vi b), some (vi e), some (vi d), some (vi par), some (vi N), some (vr G (22 + N))] [] := by
      intro m8 B0 B1 B2 B3 B4 B5 B6 B7 B8 B9 B10 B11 B12
      obtain ⟨k0, k1, k2, k3, k4, k5, k6, k7, k8, k9⟩ := B9
      have r3 : m8 3 = mem 3 := B1 3 (by decide) (by decide) (by decide) (by decide) (by decide) (by decide) (by decide) (by decide) (by omega) (by omega)
      have r5 : m8 5 = mem 5 := B1 5 (by decide) (by decide) (by decide) (by decide) (by decide) (by decide) (by decide) (by decide) (by omega) (by omega)
      have r11 : m8 11 = mem 11 := B1 11 (by decide) (by decide) (by decide) (by decide) (by decide) (by decide) (by decide) (by decide) (by omega) (by omega)
      have r13 : m8 13 = mem 13 := B1 13 (by decide) (by decide) (by decide) (by decide) (by decide) (by decide) (by decide) (by decide) (by omega) (by omega)
      have w3 : bw_ m8 3 := hw.mov r3 r11
      have w5 : bw_ m8 5 := h5.mov r5 r13
      have rf9 : ∀ i : Nat, i < N → ∀ g : Nat, g < 8 → m8 (54 + 8 * i + g) = mem (54 + 8 * i + g) := fun i hi g hg => B1 _ (by omega) (by omega) (by omega) (by omega) (by omega) (by omega) (by omega) (by omega) (by omega) (by omega)
      have hfc : fC mem m8 := fun r hr => B1 r (by omega) (by omega) (by omega) (by omega) (by omega) (by omega) (by omega) (by omega) (by omega) (by omega)
      have hln1 : (bmpI L par ++ [mkE f x]).length = N + 1 := by rw [List.length_append, bmpI_len, hNn]; rfl
      have hln2 : (((bmpI L par ++ [mkE f x]).length : Nat) : Int) = (N : Int) + 1 := by rw [hln1]; omega
      have hmk : ∀ w : Int, (mkE f x).1 w = if w = 0 then (eK f x).1 else if w = 1 then x.2.2.1 else if w = 2 then x.2.2.2 else if w = 3 then (eF f x).1.length else if w = 4 then eN f x else if w = 5 then (eC f x).length else if w = 6 then 0 else if w = 7 then x.1 else if w = 8 then (eF f x).2 else x.2.1 := fun w => rfl
      have mk0 : (mkE f x).1 0 = (eK f x).1 := rfl
      have mk1 : (mkE f x).1 1 = d := by rw [← xd]; rfl
      have mk2 : (mkE f x).1 2 = par := by rw [← xp]; rfl
      have mk4 : (mkE f x).1 4 = eN f x := rfl
      have mk6 : (mkE f x).1 6 = 0 := rfl
      have mk7 : (mkE f x).1 7 = b := by rw [← xb]; rfl
      have mk8 : (mkE f x).1 8 = body := by rw [← hbody]; rfl
      have mk9 : (mkE f x).1 9 = e := by rw [← xs]; rfl
      have mkF : (mkE f x).2.1 = fl := by rw [← hfl]; rfl
      have mkC : (mkE f x).2.2.1 = eC f x := rfl
      have mkB : (mkE f x).2.2.2 = (eK f x).2 := rfl
      have hch : chE f x N = if (eK f x).1 = 2 then [(body, e, d + 1, (N : Int))] else if (eK f x).1 = 1 then (parts_ f body e (eK f x).2).map (fun q => (q.1, q.2, d + 1, (N : Int))) else [] := by unfold chE; rw [hbody, xs, xd]
      have hNint : ((N : Nat) : Int) = (L.length : Int) := by rw [hNn]
      by_cases hk0 : (eK f x).1 = 0
      · have heC : eC f x = dec_ (eN f x) (slc f body e) := by unfold eC; rw [if_pos hk0, hbody, xs]
        rw [if_neg (by omega), if_neg (by omega)] at hch
        rw [hch] at he
        have fin : ∀ m9 : mt_M, st_ (bL_ (st_ m8 (22 + N) 8 (m8 5 1)) 5 (eC f x)) (22 + N) 9 (eC f x).length = m9 → ((eC f x).length : Int) ≤ e - body → ((none : Option Value) = none ∧ RB m9 (rdF f j [] (bmpI L par ++ [mkE f x])) e ∧ fC mem m9) := by
          intro m9 hm9 hle
          generalize hD : eC f x = D at *
          generalize hma : st_ m8 (22 + N) 8 (m8 5 1) = ma at *
          have a0 : ∀ r : Nat, r ≠ 22 + N → ma r = m8 r := fun r hr => by rw [← hma, st_row hr]
          have a5 := a0 5 (by omega)
          have a13 := a0 13 (by omega)
          have hl5 : ln_ (5 + 8) = 320 := rfl
          have h50 := w5.2.1
          have r51 : m8 5 1 = mem 5 1 := by rw [r5]
          have wa : bw_ ma 5 := w5.mov a5 a13
          have hDb : ∀ c ∈ D, 0 ≤ c ∧ c ≤ 255 := by rw [heC]; exact dec_by (slc_by (fun i i0 i1 => by rw [← hf]; exact hw.2.2.2 i (by omega) (by omega)))
          obtain ⟨f1, f2, f3, f4⟩ := bL_fit (r := 5) D ma (by rw [a5]; exact h50) (by rw [hl5, a5]; omega)
          have wb := wa.bL hDb (by rw [hl5, a5]; omega)
          have ub := up_.bL (m := ma) (r := 5) (A := D) (by rw [a5]; exact h50) (by rw [hl5, a5]; omega)
          have n0 : ∀ r : Nat, r ≠ 22 + N → r ≠ 5 → r ≠ 13 → m9 r = m8 r := fun r x1 x2 x3 => by rw [← hm9, st_row x1, bL_row x2 x3, a0 r x1]
          have nk : ∀ z : Int, z ≠ 8 → z ≠ 9 → m9 (22 + N) z = m8 (22 + N) z := fun z z8 z9 => by rw [← hm9, st_ne (Or.inr z9), bL_row (by omega) (by omega), ← hma, st_ne (Or.inr z8)]
          have nk8 : m9 (22 + N) 8 = m8 5 1 := by rw [← hm9, st_ne (Or.inr (by decide)), bL_row (by omega) (by omega), ← hma, st_same]
          have nk9 : m9 (22 + N) 9 = D.length := by rw [← hm9, st_same]
          have n5 : m9 5 = bL_ ma 5 D 5 := by rw [← hm9, st_row (by omega)]
          have n13 : m9 13 = bL_ ma 5 D 13 := by rw [← hm9, st_row (by omega)]
          have u5 : up_ mem m9 5 := by
            have u1 : up_ mem ma 5 := up_.same (by rw [a5, r5]) (by rw [a13, r13])
            have u2 : up_ (bL_ ma 5 D) m9 5 := up_.same (by rw [n5]) n13
            exact (u1.trans ub).trans u2
          have n51 : m9 5 1 = mem 5 1 + D.length := by rw [n5, f1, a5, r5]
          have nE : cE m9 N (mkE f x) := by
            unfold cE
            rw [mk0, mk1, mk2, mk4, mk6, mk7, mk8, mk9, mkF, mkC, mkB, nk 0 (by decide) (by decide), nk 1 (by decide) (by decide), nk 2 (by decide) (by decide), nk 3 (by decide) (by decide), nk 4 (by decide) (by decide), nk 5 (by decide) (by decide), nk 6 (by decide) (by decide), nk 7 (by decide) (by decide), nk8, nk9, nk 10 (by decide) (by decide), nk 11 (by decide) (by decide), n0 6 (by omega) (by decide) (by decide), n0 14 (by omega) (by decide) (by decide)]
            refine ⟨⟨k0, k1, k2, k3, k4, k5, k6, k7, by rw [hmk 3, if_neg (by decide), if_neg (by decide), if_neg (by decide), if_pos rfl, hfl], by rw [hmk 5, if_neg (by decide), if_neg (by decide), if_neg (by decide), if_neg (by decide), if_neg (by decide), if_pos rfl]⟩, ?_, ⟨h50, rfl, by rw [n51, r51]; exact Int.le_refl _, ?_⟩, B10⟩
            · exact B8.mov (nk 12 (by decide) (by decide)) (fun g hg => n0 _ (by omega) (by omega) (by omega)) (by rw [n0 3 (by omega) (by decide) (by decide)]) (n0 11 (by omega) (by decide) (by decide)) (up_.same (by rw [n0 4 (by omega) (by decide) (by decide)]) (n0 _ (by omega) (by decide) (by decide)))
            · rw [n13]
              have := f4
              rw [a5] at this
              exact this
          have hRC : RC m9 (bmpI L par ++ [mkE f x]) := RC_new hRB.1 (by omega) hp (by rw [hNn]; exact hpl) (fun i hi => by
              rw [hNn] at hi
              refine ⟨fun z hz => by rw [n0 _ (by omega) (by omega) (by omega)]; exact (B2 i hi).1 z hz, by rw [n0 _ (by omega) (by omega) (by omega)]; exact (B2 i hi).2, fun g hg => by rw [n0 _ (by omega) (by omega) (by omega)]; exact rf9 i hi g hg⟩)
            (by rw [n0 3 (by omega) (by decide) (by decide), r3]) (by rw [n0 11 (by omega) (by decide) (by decide), r11, hf]) (B3.trans (up_.same (by rw [n0 4 (by omega) (by decide) (by decide)]) (n0 _ (by omega) (by decide) (by decide)))) u5 (B4.trans (up_.same (by rw [n0 6 (by omega) (by decide) (by decide)]) (n0 _ (by omega) (by decide) (by decide))))
            (B5.mov (n0 _ (by omega) (by decide) (by decide)) (n0 _ (by omega) (by decide) (by decide))) (wb.mov n5 n13) (B6.mov (n0 _ (by omega) (by decide) (by decide)) (n0 _ (by omega) (by decide) (by decide))) (B7.mov (n0 _ (by omega) (by decide) (by decide)) (n0 _ (by omega) (by decide) (by decide))) (by rw [n0 17 (by omega) (by decide) (by decide), B0, hNint]) (by rw [hNn]; exact nE)
          refine ⟨rfl, ⟨hRC, ?_, ?_, ?_⟩, fun r hr => by rw [n0 r (by omega) (by omega) (by omega)]; exact hfc r hr⟩
          · rw [n0 4 (by omega) (by decide) (by decide)]; omega
          · rw [n51]; omega
          · rw [n0 6 (by omega) (by decide) (by decide), rdF_nil, hln2]; exact B12
        refine jj_aload h d_T_readEntity_128 rfl ⟨_, rfl⟩ ?_
        refine jj_g_E_kind h (by omega) fl_T_103 d_T_readEntity_130 ?_
        try simp only [k0]
        refine jj_if_ne h 148 d_T_readEntity_133 (by decide) ⟨by omega, by omega⟩ (fun q133 => absurd (hk0) q133) (fun _ => ?_)
        refine jj_aload_n h d_T_readEntity_136 rfl ⟨_, rfl⟩ ?_
        refine jj_g_T_decoder h  fl_T_43 d_T_readEntity_137 ?_
        try simp only [k0]
        refine jj_aload h d_T_readEntity_140 rfl ⟨_, rfl⟩ ?_
        refine jj_callV h (cD_decode hN16 w3 w5 k6 k7 k3 hNb (by omega) (by omega) (by rw [r3]; exact e1) (by rw [r5]; omega)) cv_T_106 (ro_of he (by first | decide | omega) (by decide)) rfl rfl (by decide) rfl rfl rfl (Nat.le_of_ble_eq_true rfl) d_T_readEntity_142 (fun v m142 hv => ?_)
        obtain ⟨rfl, t1, t2⟩ := hv
        rw [r11, hf, ← heC] at t1 t2
        refine jj_goto h 183 d_T_readEntity_145 (by decide) ?_
        refine jj_vret h he d_T_readEntity_183 ?_
        exact fin _ t1 t2
      · have heC : eC f x = [] := by unfold eC; rw [if_neg hk0]
        have hRB8 : RB m8 (bmpI L par ++ [mkE f x]) body := by
          have nE : cE m8 N (mkE f x) := by
            unfold cE
            rw [mk0, mk1, mk2, mk4, mk6, mk7, mk8, mk9, mkF, mkC, mkB, heC]
            refine ⟨⟨k0, k1, k2, k3, k4, k5, k6, k7, by rw [hmk 3, if_neg (by decide), if_neg (by decide), if_neg (by decide), if_pos rfl, hfl], by rw [hmk 5, if_neg (by decide), if_neg (by decide), if_neg (by decide), if_neg (by decide), if_neg (by decide), if_pos rfl, heC]⟩, B8, ⟨by omega, by rw [k9]; rfl, ?_, ?_⟩, B10⟩
            · rw [k8]; show 0 + ((0 : Nat) : Int) ≤ m8 5 1; have := w5.2.1; omega
            · exact slc_nil (by show m8 (22 + N) 8 + ((0 : Nat) : Int) ≤ m8 (22 + N) 8; omega)
          refine ⟨RC_new hRB.1 (by omega) hp (by rw [hNn]; exact hpl) (fun i hi => by rw [hNn] at hi; exact ⟨(B2 i hi).1, (B2 i hi).2, rf9 i hi⟩) r3 (by rw [r11, hf]) B3 (up_.same (by rw [r5]) r13) B4 B5 w5 B6 B7 (by rw [B0, hNint]) (by rw [hNn]; exact nE), B11, by rw [r5]; omega, by rw [hln2]; exact B12⟩
        have hj0 : 1 ≤ j := by have := hd4 hk0; omega
        have ih' : ∀ (l : Launch) (mem : mt_M) (L : List mt_E) (y : mt_R), y.2.2.1 = 5 - (j : Int) → RB mem L y.1 → 0 ≤ y.1 → y.1 ≤ y.2.1 → y.2.1 ≤ mem 3 1 → -1 ≤ y.2.2.2 → y.2.2.2 < L.length → CT G l y_T_readEntity c_T_readEntity 7 none (9 + 2 * j) [vr G 17, vi y.1, vi y.2.1, vi y.2.2.1, vi y.2.2.2] mem (fun v m' => v = none ∧ RB m' (rdT (mem 11) j y L) y.2.1 ∧ fC mem m') := fun l' a b c d e f g i k q => ih l' a b c d hj0 (by omega) e f g i k q
        by_cases hk2 : (eK f x).1 = 2
        · rw [if_pos hk2] at hch
          rw [hch] at he
          have hy := ih' X.2.1 m8 (bmpI L par ++ [mkE f x]) (body, e, d + 1, (N : Int)) (by show d + 1 = 5 - (j : Int); omega) hRB8 (by show 0 ≤ body; omega) (by show body ≤ e; omega) (by show e ≤ m8 3 1; rw [r3]; exact e1) (by show (-1 : Int) ≤ (N : Int); omega) (by show (N : Int) < _; omega)
          refine jj_aload h d_T_readEntity_128 rfl ⟨_, rfl⟩ ?_
          refine jj_g_E_kind h (by omega) fl_T_103 d_T_readEntity_130 ?_
          try simp only [k0, k6]
          refine jj_if_ne h 148 d_T_readEntity_133 (by decide) ⟨by omega, by omega⟩ (fun _ => ?_) (fun q133 => absurd q133 (hk0))
          refine jj_aload h d_T_readEntity_148 rfl ⟨_, rfl⟩ ?_
          refine jj_g_E_kind h (by omega) fl_T_103 d_T_readEntity_150 ?_
          try simp only [k0, k6]
          refine jj_iconst h d_T_readEntity_153 ?_
          refine jj_icmp_ne h 175 d_T_readEntity_154 (by decide) ⟨by omega, by omega⟩ ⟨by decide, by decide⟩ (fun q154 => absurd (hk2) q154) (fun _ => ?_)
          refine jj_aload_n h d_T_readEntity_157 rfl ⟨_, rfl⟩ ?_
          refine jj_aload h d_T_readEntity_158 rfl ⟨_, rfl⟩ ?_
          refine jj_g_E_body h (by omega) fl_T_86 d_T_readEntity_160 ?_
          try simp only [k0, k6]
          refine jj_iload_n h d_T_readEntity_163 rfl ?_
          refine jj_iload_n h d_T_readEntity_164 rfl ?_
          refine jj_iconst h d_T_readEntity_165 ?_
          refine jj_iadd h d_T_readEntity_166 ?_
          refine jj_iload h d_T_readEntity_167 rfl ?_
          refine jj_callV h (hy) cv_T_109 (ro_of he (by first | decide | omega) (by decide)) rfl rfl (by decide) rfl rfl rfl (Nat.le_of_ble_eq_true rfl) d_T_readEntity_169 (fun v m169 hv => ?_)
          obtain ⟨rfl, q1, q2⟩ := hv
          rw [r11, hf] at q1
          refine jj_goto h 183 d_T_readEntity_172 (by decide) ?_
          refine jj_vret h he d_T_readEntity_183 ?_
          exact ⟨rfl, q1, hfc.trans q2⟩
        · have hk1 : (eK f x).1 = 1 := by omega
          rw [if_neg hk2, if_pos hk1] at hch
          rw [hch] at he
          have hBl := of_decide_eq_true (hKb.2.1 hk1)
          have hgl : (bmpI L par ++ [mkE f x])[N]? = some (mkE f x) := by rw [List.getElem?_append_right (by rw [bmpI_len, hNn]; exact Nat.le_refl _), bmpI_len, hNn, Nat.sub_self]; rfl
          have hy := cT_readParts (G := G) (l := X.2.1) (j := j) ih' ⟨hj0, by omega⟩ hgl mk1 (by omega) mk8 mk9 mkB hBl.1 hRB8 (by omega) (by omega) (by rw [r3]; exact e1)
          rw [r11, hf] at hy
          refine jj_aload h d_T_readEntity_128 rfl ⟨_, rfl⟩ ?_
          refine jj_g_E_kind h (by omega) fl_T_103 d_T_readEntity_130 ?_
          try simp only [k0]
          refine jj_if_ne h 148 d_T_readEntity_133 (by decide) ⟨by omega, by omega⟩ (fun _ => ?_) (fun q133 => absurd q133 (hk0))
          refine jj_aload h d_T_readEntity_148 rfl ⟨_, rfl⟩ ?_
          refine jj_g_E_kind h (by omega) fl_T_103 d_T_readEntity_150 ?_
          try simp only [k0]
          refine jj_iconst h d_T_readEntity_153 ?_
          refine jj_icmp_ne h 175 d_T_readEntity_154 (by decide) ⟨by omega, by omega⟩ ⟨by decide, by decide⟩ (fun _ => ?_) (fun q154 => absurd q154 (hk2))
          refine jj_aload_n h d_T_readEntity_175 rfl ⟨_, rfl⟩ ?_
          refine jj_aload h d_T_readEntity_176 rfl ⟨_, rfl⟩ ?_
          refine jj_iload h d_T_readEntity_178 rfl ?_
          refine jj_callV h (hy) cv_T_112 (ro_of he (by first | decide | omega) (by decide)) rfl rfl (by decide) rfl rfl rfl (Nat.le_of_ble_eq_true rfl) d_T_readEntity_180 (fun v m180 hv => ?_)
          obtain ⟨rfl, q1, q2⟩ := hv
          refine jj_vret h he d_T_readEntity_183 ?_
          exact ⟨rfl, q1, hfc.trans q2⟩
    have seg85 : ∀ m1 : mt_M, m1 17 7 = N + 1 → eN_ m1 (22 + N) b e d par → (∀ r : Nat, r ≠ 17 → (r < 22 ∨ 37 < r) → m1 r = mem r) → (∀ i : Nat, i < N → (∀ z : Int, z ≠ 4 → m1 (22 + i) z = mem (22 + i) z) ∧ m1 (22 + i) 4 = mem (22 + i) 4 + (if par = i then 1 else 0)) → JJ G X 0 0 m1 85 [some (vr G 17), some (vi b), some (vi e), some (vi d), some (vi par), some (vi N), some (vr G (22 + N))] [] := by
      intro m1 A1 A2 A3 A4
      obtain ⟨a0, a1, a2, a3, a4, a5, a6, a7, a8, a9, a10, a11, a12⟩ := A2
      have r3 := A3 3 (by decide) (by omega)
      have r4 := A3 4 (by decide) (by omega)
      have r11 := A3 11 (by decide) (by omega)
      have r12 := A3 12 (by decide) (by omega)
      have w3 : bw_ m1 3 := hw.mov r3 r11
      have w4 : bw_ m1 4 := h4.mov r4 r12
      have hRF := cT_readFields (G := G) (l := X.2.1) (mem := m1) (N := N) (b := b) (e := e) hN16 w3 w4 a5 a7 a12 b0 b1 (by rw [r3]; exact e1) (by rw [r4]; omega)
      rw [r11, hf, hF2] at hRF
      -- behind the encoding
      have seg108 : ∀ m5 : mt_M, m5 17 7 = N + 1 → (∀ r : Nat, r ≠ 4 → r ≠ 12 → r ≠ 7 → r ≠ 15 → r ≠ 18 → r ≠ 22 + N → (r < 54 + 8 * N ∨ 62 + 8 * N ≤ r) → m5 r = m1 r) → up_ m1 m5 4 → bw_ m5 4 → bw_ m5 7 → cG m5 N fl → (m5 (22 + N) 0 = 0 ∧ m5 (22 + N) 1 = d ∧ m5 (22 + N) 2 = par ∧ m5 (22 + N) 3 = eN f x ∧ m5 (22 + N) 4 = 0 ∧ m5 (22 + N) 5 = b ∧ m5 (22 + N) 6 = body ∧ m5 (22 + N) 7 = e ∧ m5 (22 + N) 8 = 0 ∧ m5 (22 + N) 9 = 0 ∧ m5 (22 + N) 10 = 0 ∧ m5 (22 + N) 11 = 0) → m5 4 1 ≤ body → JJ G X 0 0 m5 108 [some (vr G 17), some (vi b), some (vi e), some (vi d), some (vi par), some (vi N), some (vr G (22 + N))] [] := by
        intro m5 C0 C1 C2 C3 C4 C5 C6 C7
        obtain ⟨g0, g1, g2, g3, g4, g5, g6, g7, g8, g9, g10, g11⟩ := C6
        have s3 : m5 3 = mem 3 := by rw [C1 3 (by decide) (by decide) (by decide) (by decide) (by decide) (by omega) (by omega), r3]
        have s6 : m5 6 = mem 6 := by rw [C1 6 (by decide) (by decide) (by decide) (by decide) (by decide) (by omega) (by omega), A3 6 (by decide) (by omega)]
        have s11 : m5 11 = mem 11 := by rw [C1 11 (by decide) (by decide) (by decide) (by decide) (by decide) (by omega) (by omega), r11, hf]
        have s14 : m5 14 = mem 14 := by rw [C1 14 (by decide) (by decide) (by decide) (by decide) (by decide) (by omega) (by omega), A3 14 (by decide) (by omega)]
        have u14 : up_ mem m1 4 := up_.same (by rw [r4]) r12
        have w35 : bw_ m5 3 := hw.mov s3 (by rw [s11])
        have w65 : bw_ m5 6 := h6.mov s6 s14
        -- no boundary is read
        have plain : ∀ m6 : mt_M, fS N 0 m5 m6 → m6 (22 + N) 0 = (eK f x).1 → (eK f x).1 ≠ 1 → JJ G X 0 0 m6 128 [some (vr G 17), some (vi b), some (vi e), some (vi d), some (vi par), some (vi N), some (vr G (22 + N))] [] := by
          intro m6 D1 D2 D3
          have q0 : ∀ r : Nat, r ≠ 7 → r ≠ 15 → r ≠ 18 → r ≠ 22 + N → m6 r = m5 r := D1.1
          have qk : ∀ z : Int, z ≠ 0 → m6 (22 + N) z = m5 (22 + N) z := D1.2.1
          have hK2 := hKb.2.2 D3
          refine seg128 m6 ?_ (fun r x1 x2 x3 x4 x5 x6 x7 x8 x9 x10 => ?_) (fun i hi => ⟨fun z hz => ?_, ?_⟩) ((u14.trans C2).trans (up_.same (by rw [q0 4 (by decide) (by decide) (by decide) (by omega)]) (q0 _ (by decide) (by decide) (by decide) (by omega)))) (up_.same (by rw [q0 6 (by decide) (by decide) (by decide) (by omega), s6]) (by rw [q0 (6 + 8) (by decide) (by decide) (by decide) (by omega)]; exact s14)) (C3.mov (q0 _ (by decide) (by decide) (by decide) (by omega)) (q0 _ (by decide) (by decide) (by decide) (by omega))) (w65.mov (q0 _ (by decide) (by decide) (by decide) (by omega)) (q0 _ (by decide) (by decide) (by decide) (by omega))) D1.2.2 (C5.mov (qk 12 (by decide)) (fun g hg => q0 _ (by omega) (by omega) (by omega) (by omega)) (by rw [q0 3 (by decide) (by decide) (by decide) (by omega)]) (q0 _ (by decide) (by decide) (by decide) (by omega)) (up_.same (by rw [q0 4 (by decide) (by decide) (by decide) (by omega)]) (q0 _ (by decide) (by decide) (by decide) (by omega)))) ⟨D2, by rw [qk 1 (by decide)]; exact g1, by rw [qk 2 (by decide)]; exact g2, by rw [qk 3 (by decide)]; exact g3, by rw [qk 4 (by decide)]; exact g4, by rw [qk 5 (by decide)]; exact g5, by rw [qk 6 (by decide)]; exact g6, by rw [qk 7 (by decide)]; exact g7, by rw [qk 8 (by decide)]; exact g8, by rw [qk 9 (by decide)]; exact g9⟩ ?_ (by rw [q0 4 (by decide) (by decide) (by decide) (by omega)]; exact C7) (by rw [q0 6 (by decide) (by decide) (by decide) (by omega), s6]; omega)
          · rw [q0 17 (by decide) (by decide) (by decide) (by omega)]; exact C0
          · rw [q0 r x5 x6 x7 (by omega), C1 r x1 x2 x5 x6 x7 (by omega) x10]; exact A3 r x8 x9
          · rw [q0 _ (by omega) (by omega) (by omega) (by omega), C1 _ (by omega) (by omega) (by omega) (by omega) (by omega) (by omega) (by omega)]; exact (A4 i hi).1 z hz
          · rw [q0 _ (by omega) (by omega) (by omega) (by omega), C1 _ (by omega) (by omega) (by omega) (by omega) (by omega) (by omega) (by omega)]; exact (A4 i hi).2
          · rw [hK2, qk 10 (by decide), qk 11 (by decide), g10, g11]
            exact ⟨Int.le_refl _, rfl, by show 0 + ((0 : Nat) : Int) ≤ m6 6 1; rw [q0 6 (by decide) (by decide) (by decide) (by omega), s6]; have := h6.2.1; omega, slc_nil (by show 0 + ((0 : Nat) : Int) ≤ 0; decide)⟩
        by_cases hd4' : d = 4
        · have hk00 : eK f x = (0, []) := by rw [hK, hd4']; unfold kndO_; split; rfl; rw [if_pos rfl]
          refine jj_iload_n h d_T_readEntity_108 rfl ?_
          refine jj_iconst h d_T_readEntity_109 ?_
          refine jj_icmp_ge h 128 d_T_readEntity_110 (by decide) ⟨by omega, by omega⟩ ⟨by omega, by omega⟩ (fun _ => ?_) (fun q110 => absurd (by omega) q110)
          exact plain m5 ⟨fun _ _ _ _ _ => rfl, fun _ _ => rfl, C4⟩ (by rw [hk00]; exact g0) (by rw [hk00]; decide)
        · have hKk : eK f x = kn2 ((fnd w_ctype fl).bind kv_) := by
            rw [hK]; unfold kndO_
            cases fnd w_ctype fl with
            | none => rfl
            | some V => show (if d = 4 then ((0 : Int), ([] : List Int)) else knd V) = _; rw [if_neg hd4']; rfl
          have hRK := cT_readKind (G := G) (l := X.2.1) (N := N) hN16 C5 w35 C3 C4 g0
          cases ho : (fnd w_ctype fl).bind kv_ with
          | none =>
            rw [ho] at hRK hKk
            have hk00 : eK f x = (0, []) := hKk
            refine jj_iload_n h d_T_readEntity_108 rfl ?_
            refine jj_iconst h d_T_readEntity_109 ?_
            refine jj_icmp_ge h 128 d_T_readEntity_110 (by decide) ⟨by omega, by omega⟩ ⟨by omega, by omega⟩ (fun q110 => absurd q110 (by omega)) (fun _ => ?_)
            refine jj_aload_n h d_T_readEntity_113 rfl ⟨_, rfl⟩ ?_
            refine jj_aload h d_T_readEntity_114 rfl ⟨_, rfl⟩ ?_
            refine jj_callV h (hRK) cv_T_96 (ro_of he (by first | decide | omega) (by decide)) rfl rfl (by decide) rfl rfl rfl (Nat.le_of_ble_eq_true rfl) d_T_readEntity_116 (fun v m116 hv => ?_)
            obtain ⟨D1, rfl, D2⟩ := hv
            refine jj_if_eq h 128 d_T_readEntity_119 (by decide) ⟨by omega, by omega⟩ (fun _ => ?_) (fun q119 => absurd (by omega) q119)
            exact plain _ D1 (by rw [hk00]; exact D2) (by rw [hk00]; decide)
          | some q =>
            obtain ⟨qt, qs, qr⟩ := q
            rw [ho] at hRK hKk
            have hkn : eK f x = if wd_ w_message qt ∧ wd_ w_rfc822 qs then (2, []) else if wd_ w_multipart qt then mlt qr else (0, []) := hKk
            cases hMu : wd_ w_multipart qt with
            | false =>
              rw [hMu, if_neg (c := false = true) (by decide)] at hkn
              refine jj_iload_n h d_T_readEntity_108 rfl ?_
              refine jj_iconst h d_T_readEntity_109 ?_
              refine jj_icmp_ge h 128 d_T_readEntity_110 (by decide) ⟨by omega, by omega⟩ ⟨by omega, by omega⟩ (fun q110 => absurd q110 (by omega)) (fun _ => ?_)
              refine jj_aload_n h d_T_readEntity_113 rfl ⟨_, rfl⟩ ?_
              refine jj_aload h d_T_readEntity_114 rfl ⟨_, rfl⟩ ?_
              refine jj_callV h (hRK) cv_T_96 (ro_of he (by first | decide | omega) (by decide)) rfl rfl (by decide) rfl rfl rfl (Nat.le_of_ble_eq_true rfl) d_T_readEntity_116 (fun v m116 hv => ?_)
              obtain ⟨D1, D3, D2, -⟩ := hv
              have D3 : v = some (vi (if wd_ w_multipart qt then 1 else 0)) := D3
              rw [hMu, if_neg (by decide)] at D3
              subst D3
              refine jj_if_eq h 128 d_T_readEntity_119 (by decide) ⟨by omega, by omega⟩ (fun _ => ?_) (fun q119 => absurd (by omega) q119)
              have D2 : m116 (22 + N) 0 = (if wd_ w_message qt ∧ wd_ w_rfc822 qs then 2 else 0) := D2
              by_cases hm : wd_ w_message qt = true ∧ wd_ w_rfc822 qs = true
              · rw [if_pos hm] at hkn D2
                exact plain _ D1 (by rw [hkn]; exact D2) (by rw [hkn]; decide)
              · rw [if_neg hm] at hkn D2
                exact plain _ D1 (by rw [hkn]; exact D2) (by rw [hkn]; decide)
            | true =>
              have hnm : ¬ (wd_ w_message qt = true ∧ wd_ w_rfc822 qs = true) := fun z => wd_not z.1 hMu
              rw [hMu, if_neg hnm, if_pos rfl] at hkn
              refine jj_iload_n h d_T_readEntity_108 rfl ?_
              refine jj_iconst h d_T_readEntity_109 ?_
              refine jj_icmp_ge h 128 d_T_readEntity_110 (by decide) ⟨by omega, by omega⟩ ⟨by omega, by omega⟩ (fun q110 => absurd q110 (by omega)) (fun _ => ?_)
              refine jj_aload_n h d_T_readEntity_113 rfl ⟨_, rfl⟩ ?_
              refine jj_aload h d_T_readEntity_114 rfl ⟨_, rfl⟩ ?_
              refine jj_callV h (hRK) cv_T_96 (ro_of he (by first | decide | omega) (by decide)) rfl rfl (by decide) rfl rfl rfl (Nat.le_of_ble_eq_true rfl) d_T_readEntity_116 (fun v m116 hv => ?_)
              obtain ⟨D1, D3, D2, E9, nb9, W9, D4⟩ := hv
              have D3 : v = some (vi (if wd_ w_multipart qt then 1 else 0)) := D3
              rw [hMu, if_pos rfl] at D3
              subst D3
              have D2 : m116 (22 + N) 0 = (if wd_ w_message qt ∧ wd_ w_rfc822 qs then 2 else 0) := D2
              rw [if_neg hnm] at D2
              have D4 : SL m116 E9 qr nb9 W9 m116 := D4
              have q0 : ∀ r : Nat, r ≠ 7 → r ≠ 15 → r ≠ 18 → r ≠ 22 + N → m116 r = m5 r := D1.1
              have qk : ∀ z : Int, z ≠ 0 → m116 (22 + N) z = m5 (22 + N) z := D1.2.1
              have w46 : bw_ m116 4 := C3.mov (q0 _ (by decide) (by decide) (by decide) (by omega)) (q0 _ (by decide) (by decide) (by decide) (by omega))
              have w66 : bw_ m116 6 := w65.mov (q0 _ (by decide) (by decide) (by decide) (by omega)) (q0 _ (by decide) (by decide) (by decide) (by omega))
              have t6 : m116 6 = mem 6 := by rw [q0 6 (by decide) (by decide) (by decide) (by omega), s6]
              have t14 : m116 14 = mem 14 := by rw [q0 14 (by decide) (by decide) (by decide) (by omega), s14]
              have hRBd := cT_readBoundary (G := G) (l := X.2.1) (N := N) hN16 w46 w66 D4 (by rw [t6]; omega)
              refine jj_if_eq h 128 d_T_readEntity_119 (by decide) ⟨by omega, by omega⟩ (fun q119 => absurd q119 (by omega)) (fun _ => ?_)
              refine jj_aload_n h d_T_readEntity_122 rfl ⟨_, rfl⟩ ?_
              refine jj_aload h d_T_readEntity_123 rfl ⟨_, rfl⟩ ?_
              refine jj_callV h (hRBd) cv_T_100 (ro_of he (by first | decide | omega) (by decide)) rfl rfl (by decide) rfl rfl rfl (Nat.le_of_ble_eq_true rfl) d_T_readEntity_125 (fun v m125 hv => ?_)
              obtain ⟨rfl, Ba, Bb⟩ := hv
              have Ba : (mlt qr).1 ≠ 1 → fS N 0 m116 m125 ∧ m125 (22 + N) 0 = m116 (22 + N) 0 := Ba
              by_cases hm1 : (mlt qr).1 = 1
              · obtain ⟨p0, p10, p11, pk, pr, pb7, pb6, pu6, ps6, pt6⟩ := Bb hm1
                have hBl : (mlt qr).2.length ≤ 20 := by
                  have := of_decide_eq_true (hKb.2.1 (by rw [hkn]; exact hm1))
                  rw [hkn] at this
                  exact this.2.1
                have n0 : ∀ r : Nat, r ≠ 7 → r ≠ 15 → r ≠ 18 → r ≠ 22 + N → r ≠ 6 → r ≠ 14 → m125 r = m5 r := fun r x1 x2 x3 x4 x5 x6 => by rw [pr r x1 x2 x3 x4 x5 x6, q0 r x1 x2 x3 x4]
                have nk : ∀ z : Int, z ≠ 0 → z ≠ 10 → z ≠ 11 → m125 (22 + N) z = m5 (22 + N) z := fun z x1 x2 x3 => by rw [pk z x1 x2 x3, qk z x1]
                refine seg128 m125 ?_ (fun r x1 x2 x3 x4 x5 x6 x7 x8 x9 x10 => ?_) (fun i hi => ⟨fun z hz => ?_, ?_⟩) ((u14.trans C2).trans (up_.same (by rw [n0 4 (by decide) (by decide) (by decide) (by omega) (by decide) (by decide)]) (n0 _ (by decide) (by decide) (by decide) (by omega) (by decide) (by decide)))) ((up_.same (by rw [t6]) t14 : up_ mem m116 6).trans pu6) (C3.mov (n0 _ (by decide) (by decide) (by decide) (by omega) (by decide) (by decide)) (n0 _ (by decide) (by decide) (by decide) (by omega) (by decide) (by decide))) pb6 pb7 (C5.mov (nk 12 (by decide) (by decide) (by decide)) (fun g hg => n0 _ (by omega) (by omega) (by omega) (by omega) (by omega) (by omega)) (by rw [n0 3 (by decide) (by decide) (by decide) (by omega) (by decide) (by decide)]) (n0 _ (by decide) (by decide) (by decide) (by omega) (by decide) (by decide)) (up_.same (by rw [n0 4 (by decide) (by decide) (by decide) (by omega) (by decide) (by decide)]) (n0 _ (by decide) (by decide) (by decide) (by omega) (by decide) (by decide)))) ⟨by rw [hkn, hm1]; exact p0, by rw [nk 1 (by decide) (by decide) (by decide)]; exact g1, by rw [nk 2 (by decide) (by decide) (by decide)]; exact g2, by rw [nk 3 (by decide) (by decide) (by decide)]; exact g3, by rw [nk 4 (by decide) (by decide) (by decide)]; exact g4, by rw [nk 5 (by decide) (by decide) (by decide)]; exact g5, by rw [nk 6 (by decide) (by decide) (by decide)]; exact g6, by rw [nk 7 (by decide) (by decide) (by decide)]; exact g7, by rw [nk 8 (by decide) (by decide) (by decide)]; exact g8, by rw [nk 9 (by decide) (by decide) (by decide)]; exact g9⟩ ?_ (by rw [n0 4 (by decide) (by decide) (by decide) (by omega) (by decide) (by decide)]; exact C7) (by rw [ps6, t6]; omega)
                · rw [n0 17 (by decide) (by decide) (by decide) (by omega) (by decide) (by decide)]; exact C0
                · rw [n0 r x5 x6 x7 (by omega) x3 x4, C1 r x1 x2 x5 x6 x7 (by omega) x10]; exact A3 r x8 x9
                · rw [n0 _ (by omega) (by omega) (by omega) (by omega) (by omega) (by omega), C1 _ (by omega) (by omega) (by omega) (by omega) (by omega) (by omega) (by omega)]; exact (A4 i hi).1 z hz
                · rw [n0 _ (by omega) (by omega) (by omega) (by omega) (by omega) (by omega), C1 _ (by omega) (by omega) (by omega) (by omega) (by omega) (by omega) (by omega)]; exact (A4 i hi).2
                · rw [hkn, p10, p11]
                  exact ⟨by rw [t6]; exact h6.2.1, rfl, by rw [ps6]; exact Int.le_refl _, pt6⟩
              · obtain ⟨Ba1, Ba2⟩ := Ba hm1
                have hk00 : (mlt qr).1 = 0 := by
                  have h1 := hKb.1
                  rw [hkn] at h1
                  have h2 : (mlt qr).1 ≠ 2 := by
                    unfold mlt
                    split
                    · show (0 : Int) ≠ 2; decide
                    · split
                      · show (1 : Int) ≠ 2; decide
                      · show (0 : Int) ≠ 2; decide
                  omega
                refine plain m125 ⟨fun r x1 x2 x3 x4 => by rw [Ba1.1 r x1 x2 x3 x4, q0 r x1 x2 x3 x4], fun z hz => by rw [Ba1.2.1 z hz, qk z hz], Ba1.2.2⟩ ?_ (by rw [hkn]; exact hm1)
                rw [Ba2, D2, hkn, hk00]
      have hRF7 : bw_ m1 7 := h7.mov (A3 7 (by decide) (by omega)) (A3 15 (by decide) (by omega))
      have seg96 : ∀ m2 m3 : mt_M, cG m2 N (fl1 f e ((e - b).toNat + 1) b []).1 → fG N m1 m2 → bw_ m2 4 → m2 4 1 ≤ m1 4 1 + (body - b) → st_ m2 (22 + N) 6 body = m3 → JJ G X 0 0 m3 96 [some (vr G 17), some (vi b), some (vi e), some (vi d), some (vi par), some (vi N), some (vr G (22 + N))] [] := by
        intro m2 m3 E1 E2 E3 E4 E5
        have p0 : ∀ r : Nat, r ≠ 22 + N → m3 r = m2 r := fun r hr => by rw [← E5, st_row hr]
        have pk : ∀ z : Int, z ≠ 6 → m3 (22 + N) z = m2 (22 + N) z := fun z hz => by rw [← E5, st_ne (Or.inr hz)]
        have pk6 : m3 (22 + N) 6 = body := by rw [← E5, st_same]
        have T0 : cG m3 N (fl1 f e ((e - b).toNat + 1) b []).1 := E1.mov (pk 12 (by decide)) (fun g hg => p0 _ (by omega)) (by rw [p0 3 (by omega)]) (p0 _ (by omega)) (up_.same (by rw [p0 4 (by omega)]) (p0 _ (by omega)))
        have w43 : bw_ m3 4 := E3.mov (p0 _ (by omega)) (p0 _ (by omega))
        refine jj_aload_n h d_T_readEntity_96 rfl ⟨_, rfl⟩ ?_
        refine jj_aload h d_T_readEntity_97 rfl ⟨_, rfl⟩ ?_
        refine jj_callV h (cT_trimValues hN16 T0 w43) cv_T_89 (ro_of he (by first | decide | omega) (by decide)) rfl rfl (by decide) rfl rfl rfl (Nat.le_of_ble_eq_true rfl) d_T_readEntity_99 (fun v m99 hv => ?_)
        obtain ⟨rfl, T1, T2⟩ := hv
        rw [hF1] at T1
        have q0 : ∀ r : Nat, r ≠ 4 → r ≠ 12 → r ≠ 22 + N → (r < 54 + 8 * N ∨ 62 + 8 * N ≤ r) → m99 r = m1 r := fun r x1 x2 x3 x4 => by rw [T2 r x4, p0 r x3]; exact E2.1 r x1 x2 x3 x4
        have qk : ∀ z : Int, z ≠ 6 → z ≠ 12 → m99 (22 + N) z = m1 (22 + N) z := fun z x1 x2 => by rw [T2 _ (by omega), pk z x1]; exact E2.2.1 z x2
        have qk6 : m99 (22 + N) 6 = body := by rw [T2 _ (by omega)]; exact pk6
        have q4 : m99 4 = m2 4 := by rw [T2 4 (by omega), p0 4 (by omega)]
        have q12 : m99 12 = m2 12 := by rw [T2 12 (by omega), p0 12 (by omega)]
        have v3 : bw_ m99 3 := w3.mov (q0 _ (by decide) (by decide) (by omega) (by omega)) (q0 _ (by decide) (by decide) (by omega) (by omega))
        have v4 : bw_ m99 4 := E3.mov q4 q12
        have v7 : bw_ m99 7 := hRF7.mov (q0 _ (by decide) (by decide) (by omega) (by omega)) (q0 _ (by decide) (by decide) (by omega) (by omega))
        refine jj_aload_n h d_T_readEntity_102 rfl ⟨_, rfl⟩ ?_
        refine jj_aload h d_T_readEntity_103 rfl ⟨_, rfl⟩ ?_
        refine jj_callV h (cT_readEncoding hN16 T1 v3 v4 v7 (by rw [qk 3 (by decide) (by decide)]; exact a3)) cv_T_93 (ro_of he (by first | decide | omega) (by decide)) rfl rfl (by decide) rfl rfl rfl (Nat.le_of_ble_eq_true rfl) d_T_readEntity_105 (fun v m105 hv => ?_)
        obtain ⟨rfl, N1, N2⟩ := hv
        have t0 : ∀ r : Nat, r ≠ 7 → r ≠ 15 → r ≠ 18 → r ≠ 22 + N → m105 r = m99 r := N2.1
        have tk : ∀ z : Int, z ≠ 3 → m105 (22 + N) z = m99 (22 + N) z := N2.2.1
        have t4 : m105 4 = m2 4 := by rw [t0 4 (by decide) (by decide) (by decide) (by omega), q4]
        have t12 : m105 12 = m2 12 := by rw [t0 12 (by decide) (by decide) (by decide) (by omega), q12]
        have sk : ∀ z : Int, z ≠ 3 → z ≠ 6 → z ≠ 12 → m105 (22 + N) z = m1 (22 + N) z := fun z x1 x2 x3 => by rw [tk z x1, qk z x2 x3]
        refine seg108 m105 ?_ (fun r x1 x2 x3 x4 x5 x6 x7 => by rw [t0 r x3 x4 x5 x6, q0 r x1 x2 x6 x7]) (E2.2.2.trans (up_.same (by rw [t4]) t12)) (E3.mov t4 t12) N2.2.2 (T1.mov (tk 12 (by decide)) (fun g hg => t0 _ (by omega) (by omega) (by omega) (by omega)) (by rw [t0 3 (by decide) (by decide) (by decide) (by omega)]) (t0 _ (by decide) (by decide) (by decide) (by omega)) (up_.same (by rw [t0 4 (by decide) (by decide) (by decide) (by omega)]) (t0 _ (by decide) (by decide) (by decide) (by omega)))) ⟨?_, ?_, ?_, ?_, ?_, ?_, ?_, ?_, ?_, ?_, ?_, ?_⟩ ?_
        · rw [t0 17 (by decide) (by decide) (by decide) (by omega), q0 17 (by decide) (by decide) (by omega) (by omega)]; exact A1
        · rw [sk 0 (by decide) (by decide) (by decide)]; exact a0
        · rw [sk 1 (by decide) (by decide) (by decide)]; exact a1
        · rw [sk 2 (by decide) (by decide) (by decide)]; exact a2
        · rw [hen]; exact N1
        · rw [sk 4 (by decide) (by decide) (by decide)]; exact a4
        · rw [sk 5 (by decide) (by decide) (by decide)]; exact a5
        · rw [tk 6 (by decide)]; exact qk6
        · rw [sk 7 (by decide) (by decide) (by decide)]; exact a7
        · rw [sk 8 (by decide) (by decide) (by decide)]; exact a8
        · rw [sk 9 (by decide) (by decide) (by decide)]; exact a9
        · rw [sk 10 (by decide) (by decide) (by decide)]; exact a10
        · rw [sk 11 (by decide) (by decide) (by decide)]; exact a11
        · rw [t4]; rw [r4] at E4; omega
      refine jj_aload h d_T_readEntity_85 rfl ⟨_, rfl⟩ ?_
      refine jj_aload_n h d_T_readEntity_87 rfl ⟨_, rfl⟩ ?_
      refine jj_aload h d_T_readEntity_88 rfl ⟨_, rfl⟩ ?_
      refine jj_callV h (hRF) cv_T_82 (ro_of he (by first | decide | omega) (by decide)) rfl rfl (by decide) rfl rfl rfl (Nat.le_of_ble_eq_true rfl) d_T_readEntity_90 (fun v m90 hv => ?_)
      obtain ⟨rfl, E1, E2, E3, E4⟩ := hv
      refine jj_p_E_body h (by omega) fl_T_86 d_T_readEntity_93 ?_
      exact seg96 _ _ E1 E2 E3 E4 rfl
    have hst : ∀ r : Nat, r ≠ 22 + N → es_ (st_ mem 17 7 ((N : Int) + 1)) (22 + N) b e d par r = st_ mem 17 7 ((N : Int) + 1) r := fun r hr => es_row hr
    have hs17 : st_ mem 17 7 ((N : Int) + 1) 17 7 = (N : Int) + 1 := st_same
    have hsr : ∀ r : Nat, r ≠ 17 → st_ mem 17 7 ((N : Int) + 1) r = mem r := fun r hr => st_row hr
    have hse := es_eN (m := st_ mem 17 7 ((N : Int) + 1)) (r := 22 + N) (a := b) (b := e) (d := d) (w := par)
    refine jj_aload_n h d_T_readEntity_0 rfl ⟨_, rfl⟩ ?_
    refine jj_g_T_count h  fl_T_54 d_T_readEntity_1 ?_
    try simp only [c17]
    refine jj_if_lt h 21 d_T_readEntity_4 (by decide) ⟨by omega, by omega⟩ (fun q4 => absurd q4 (by omega)) (fun _ => ?_)
    refine jj_aload_n h d_T_readEntity_7 rfl ⟨_, rfl⟩ ?_
    refine jj_g_T_count h  fl_T_54 d_T_readEntity_8 ?_
    try simp only [c17]
    refine jj_bipush h d_T_readEntity_11 (by decide) ?_
    refine jj_icmp_ge h 21 d_T_readEntity_13 (by decide) ⟨by omega, by omega⟩ ⟨by omega, by omega⟩ (fun q13 => absurd q13 (by omega)) (fun _ => ?_)
    refine jj_iload_n h d_T_readEntity_16 rfl ?_
    refine jj_iconst h d_T_readEntity_17 ?_
    refine jj_icmp_le h 22 d_T_readEntity_18 (by decide) ⟨by omega, by omega⟩ ⟨by omega, by omega⟩ (fun _ => ?_) (fun q18 => absurd (by omega) q18)
    refine jj_aload_n h d_T_readEntity_22 rfl ⟨_, rfl⟩ ?_
    refine jj_g_T_count h  fl_T_54 d_T_readEntity_23 ?_
    try simp only [c17]
    refine jj_istore h d_T_readEntity_26 (Nat.le_of_ble_eq_true rfl) rfl ?_
    refine jj_aload_n h d_T_readEntity_28 rfl ⟨_, rfl⟩ ?_
    refine jj_g_T_entities h  fl_T_49 d_T_readEntity_29 ?_
    try simp only [c17]
    refine jj_iload h d_T_readEntity_32 rfl ?_
    refine jj_aE h (by omega) (by omega) d_T_readEntity_34 ?_
    rw [show ((N : Int)).toNat = N from rfl]
    refine jj_astore h d_T_readEntity_35 ⟨_, rfl⟩ (Nat.le_of_ble_eq_true rfl) rfl ?_
    refine jj_aload_n h d_T_readEntity_37 rfl ⟨_, rfl⟩ ?_
    refine jj_dup h d_T_readEntity_38 rfl ?_
    refine jj_g_T_count h  fl_T_54 d_T_readEntity_39 ?_
    try simp only [c17]
    refine jj_iconst h d_T_readEntity_42 ?_
    refine jj_iadd h d_T_readEntity_43 ?_
    refine jj_p_T_count h  fl_T_54 d_T_readEntity_44 ?_
    refine jj_aload h d_T_readEntity_47 rfl ⟨_, rfl⟩ ?_
    refine jj_iload_n h d_T_readEntity_49 rfl ?_
    refine jj_iload_n h d_T_readEntity_50 rfl ?_
    refine jj_iload_n h d_T_readEntity_51 rfl ?_
    refine jj_iload h d_T_readEntity_52 rfl ?_
    refine jj_callV h (cE_start (by omega)) cv_T_75 (ro_of he (by first | decide | omega) (by decide)) rfl rfl (by unfold mt_N; omega) (ce_E (by omega)) rfl rfl (Nat.le_of_ble_eq_true rfl) d_T_readEntity_54 (fun v m54 hv => ?_)
    obtain ⟨rfl, rfl⟩ := hv
    refine jj_iload h d_T_readEntity_57 rfl ?_
    refine jj_if_lt h 85 d_T_readEntity_59 (by decide) ⟨by omega, by omega⟩ (fun q59 => ?_) (fun q59 => ?_)
    · refine seg85 _ (by rw [hst 17 (by omega), hs17]) hse (fun r x1 x2 => by rw [hst r (by omega), hsr r x1]) (fun i hi => ⟨fun z hz => by rw [hst _ (by omega), hsr _ (by omega)], ?_⟩)
      rw [hst _ (by omega), hsr _ (by omega), if_neg (by omega)]; omega
    · refine jj_iload h d_T_readEntity_62 rfl ?_
      refine jj_iload h d_T_readEntity_64 rfl ?_
      refine jj_icmp_ge h 85 d_T_readEntity_66 (by decide) ⟨by omega, by omega⟩ ⟨by omega, by omega⟩ (fun q66 => absurd q66 (by omega)) (fun _ => ?_)
      refine jj_aload_n h d_T_readEntity_69 rfl ⟨_, rfl⟩ ?_
      refine jj_g_T_entities h  fl_T_49 d_T_readEntity_70 ?_
      try simp only [c17]
      refine jj_iload h d_T_readEntity_73 rfl ?_
      refine jj_aE h (by omega) (by omega) d_T_readEntity_75 ?_
      refine jj_dup h d_T_readEntity_76 rfl ?_
      refine jj_g_E_parts h (by omega) fl_T_79 d_T_readEntity_77 ?_
      rw [hst _ (by omega), hsr _ (by omega)]
      refine jj_iconst h d_T_readEntity_80 ?_
      refine jj_iadd h d_T_readEntity_81 ?_
      refine jj_p_E_parts h (by omega) fl_T_79 d_T_readEntity_82 ?_
      refine seg85 _ (by rw [st_row (by omega), hst 17 (by omega), hs17]) ?_ (fun r x1 x2 => by rw [st_row (by omega), hst r (by omega), hsr r x1]) (fun i hi => ⟨fun z hz => ?_, ?_⟩)
      · have : st_ (es_ (st_ mem 17 7 ((N : Int) + 1)) (22 + N) b e d par) (22 + par.toNat) 4 (mem (22 + par.toNat) 4 + 1) (22 + N) = es_ (st_ mem 17 7 ((N : Int) + 1)) (22 + N) b e d par (22 + N) := st_row (by omega)
        unfold eN_
        rw [this]
        exact hse
      · rw [st_ne (Or.inr hz), hst _ (by omega), hsr _ (by omega)]
      · by_cases hi2 : par = i
        · rw [if_pos hi2, show par.toNat = i by omega, st_same]
        · rw [if_neg hi2, st_row (by omega), hst _ (by omega), hsr _ (by omega)]; omega
