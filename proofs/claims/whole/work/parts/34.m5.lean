/-! The reference: words that are packed into numbers. -/
/-- letter k of the word that the three numbers hold -/
def ltr (a b c : Int) (k : Int) : Int := l2i_ (land_ (lshr_ (if k < 9 then a else if k < 18 then b else c) (56 - 7 * irem_ k 9)) 127)
def wl_ (a b c : Int) (k : Nat) : List Int := ((List.range k).map (fun (i : Nat) => ltr a b c (i : Int))).filter (fun x => decide (0 < x))
theorem wl_s (a b c : Int) (k : Nat) : wl_ a b c (k + 1) = wl_ a b c k ++ (if 0 < ltr a b c k then [ltr a b c k] else []) := by
  unfold wl_
  rw [List.range_succ, List.map_append, List.filter_append]
  congr 1
  by_cases h : 0 < ltr a b c k
  · simp [h]
  · simp [h]
theorem pre_snoc {w L : List Int} {x : Int} : (w ++ [x]) <+: L ↔ w <+: L ∧ L[w.length]? = some x := by
  constructor
  · rintro ⟨t, rfl⟩
    exact ⟨⟨[x] ++ t, by simp⟩, by simp⟩
  · rintro ⟨⟨t, rfl⟩, h2⟩
    cases t with
    | nil => simp at h2
    | cons y t =>
      simp at h2
      subst h2
      exact ⟨t, by simp⟩
theorem pre_eq {w L : List Int} (h : w <+: L) (hl : w.length = L.length) : L = w := (h.eq_of_length hl).symm
theorem cM_isWord {G : mt_G} {l : Launch} {mem : mt_M} {a b c p n : Int} {w : List Int} (hw : wl_ a b c 27 = w) (hl : ∀ k : Nat, k < 27 → 0 ≤ ltr a b c k ∧ ltr a b c k ≤ 127) (h0 : 0 ≤ p) (h1 : 0 ≤ n) (h2 : p + n ≤ 1400) (hb : by_ (mem 187) p (p + n)) : CT G l y_M_isWord c_M_isWord 15 (some .boolean) 2 [vr G 182, vi p, vi n, vl a, vl b, vl c] mem (fun v m' => v = some (vi (if wd_ w (slc (mem 187) p (p + n)) then 1 else 0)) ∧ mem = m') := by
  refine CT.intro (by decide) rfl (Nat.le_of_ble_eq_true rfl) (fun X h he => ?_)
  generalize hL : (slc (mem 187) p (p + n)).map sm_ = L
  have hLl : (L.length : Int) = n := by rw [← hL, List.length_map, slc_len]; omega
  have hLg : ∀ i : Int, 0 ≤ i → i < n → L[i.toNat]? = some (sm_ (mem 187 (p + i))) := fun i i0 i1 => by
    rw [← hL, List.getElem?_map, slc_get i0 (by omega)]; rfl
  have loop : ∀ (j : Nat) (k : Nat) (x y z : Option Value), 27 - k = j → k ≤ 27 → JJ G X 0 0 mem 9 [some (vr G 182), some (vi p), some (vi n), some (vl a), none, some (vl b), none, some (vl c), none, some (vi ((wl_ a b c k).length)), some (vi (if wl_ a b c k <+: L then 1 else 0)), some (vi k), x, y, z] [] := by
    intro j
    induction j with
    | zero =>
      intro k x y z hj hk
      have hk : k = 27 := by omega
      subst hk
      rw [hw]
      have hwl : (w.length : Int) ≤ 27 := by rw [← hw]; unfold wl_; exact_mod_cast Nat.le_trans (List.length_filter_le _ _) (by simp)
      refine jj_iload h d_M_isWord_9 rfl ?_
      refine jj_bipush h d_M_isWord_11 (by decide) ?_
      refine jj_icmp_ge h 113 d_M_isWord_13 (by decide) ⟨by omega, by omega⟩ ⟨by omega, by omega⟩ (fun _ => ?_) (fun q13 => absurd (by omega) q13)
      refine jj_iload h d_M_isWord_113 rfl ?_
      refine jj_if_eq h 128 d_M_isWord_115 (by decide) ⟨by split <;> omega, by split <;> omega⟩ (fun q115 => ?_) (fun q115 => ?_)
      · refine jj_iconst h d_M_isWord_128 ?_
        refine jj_zret h he (by omega) d_M_isWord_129 ?_
        refine ⟨?_, rfl⟩
        have e1 : ¬ w <+: L := fun z9 => by rw [if_pos z9] at q115; omega
        have e2 : ¬ wd_ w (slc (mem 187) p (p + n)) = true := fun z9 => e1 (by rw [← hL, of_decide_eq_true z9]; exact List.prefix_refl _)
        rw [if_neg e2]
      · refine jj_iload h d_M_isWord_118 rfl ?_
        refine jj_iload_n h d_M_isWord_120 rfl ?_
        refine jj_icmp_ne h 128 d_M_isWord_121 (by decide) ⟨by omega, by omega⟩ ⟨by omega, by omega⟩ (fun q121 => ?_) (fun q121 => ?_)
        · refine jj_iconst h d_M_isWord_128 ?_
          refine jj_zret h he (by omega) d_M_isWord_129 ?_
          refine ⟨?_, rfl⟩
          have e2 : ¬ wd_ w (slc (mem 187) p (p + n)) = true := fun z9 => q121 (by rw [← hLl, ← hL, of_decide_eq_true z9])
          rw [if_neg e2]
        · refine jj_iconst h d_M_isWord_124 ?_
          refine jj_goto h 129 d_M_isWord_125 (by decide) ?_
          refine jj_zret h he (by omega) d_M_isWord_129 ?_
          refine ⟨?_, rfl⟩
          have e1 : w <+: L := Decidable.byContradiction fun z9 => q115 (by rw [if_neg z9])
          have e2 : wd_ w (slc (mem 187) p (p + n)) = true := decide_eq_true (by rw [hL]; exact pre_eq e1 (by omega))
          rw [if_pos e2]
    | succ j ih =>
      intro k x y z hj hk
      have hlk := hl k (by omega)
      have hwl : ((wl_ a b c k).length : Int) ≤ 27 := by unfold wl_; exact_mod_cast Nat.le_trans (List.length_filter_le _ _) (by simp; omega)
      have hnx : ∀ x' y' z', JJ G X 0 0 mem 9 [some (vr G 182), some (vi p), some (vi n), some (vl a), none, some (vl b), none, some (vl c), none, some (vi ((wl_ a b c (k + 1)).length)), some (vi (if wl_ a b c (k + 1) <+: L then 1 else 0)), some (vi ((k : Int) + 1)), x', y', z'] [] := fun x' y' z' => ih (k + 1) x' y' z' (by omega) (by omega)
      have body : ∀ r, ltr a b c k = l2i_ (land_ (lshr_ r (56 - 7 * irem_ k 9)) 127) → JJ G X 0 0 mem 41 [some (vr G 182), some (vi p), some (vi n), some (vl a), none, some (vl b), none, some (vl c), none, some (vi ((wl_ a b c k).length)), some (vi (if wl_ a b c k <+: L then 1 else 0)), some (vi k), x, y, z] [vl r] := by
        intro r hr
        have hs := wl_s a b c k
        refine jj_lstore h d_M_isWord_41 (Nat.le_of_ble_eq_true rfl) rfl ?_
        refine jj_lload h d_M_isWord_43 rfl ?_
        refine jj_bipush h d_M_isWord_45 (by decide) ?_
        refine jj_bipush h d_M_isWord_47 (by decide) ?_
        refine jj_iload h d_M_isWord_49 rfl ?_
        refine jj_bipush h d_M_isWord_51 (by decide) ?_
        refine jj_irem h d_M_isWord_53 (by decide) ?_
        refine jj_imul h d_M_isWord_54 ?_
        refine jj_isub h d_M_isWord_55 ?_
        refine jj_lshr h d_M_isWord_56 ?_
        refine jj_ldc2 h (127) d_M_isWord_57 wk_M_87 ?_
        refine jj_land h d_M_isWord_60 ?_
        refine jj_l2i h d_M_isWord_61 ?_
        rw [← hr]
        refine jj_istore h d_M_isWord_62 (Nat.le_of_ble_eq_true rfl) rfl ?_
        refine jj_iload h d_M_isWord_64 rfl ?_
        refine jj_if_le h 107 d_M_isWord_66 (by decide) ⟨by omega, by omega⟩ (fun q66 => ?_) (fun q66 => ?_)
        · rw [if_neg (by omega), List.append_nil] at hs
          refine jj_iinc h d_M_isWord_107 rfl rfl ?_
          refine jj_goto h 9 d_M_isWord_110 (by decide) ?_
          rw [hs] at hnx
          exact hnx _ _ _
        · rw [if_pos (by omega)] at hs
          refine jj_iload h d_M_isWord_69 rfl ?_
          refine jj_if_eq h 101 d_M_isWord_71 (by decide) ⟨by split <;> omega, by split <;> omega⟩ (fun q71 => ?_) (fun q71 => ?_)
          · refine jj_iconst h d_M_isWord_101 ?_
            refine jj_istore h d_M_isWord_102 (Nat.le_of_ble_eq_true rfl) rfl ?_
            refine jj_iinc h d_M_isWord_104 rfl rfl ?_
            refine jj_iinc h d_M_isWord_107 rfl rfl ?_
            refine jj_goto h 9 d_M_isWord_110 (by decide) ?_
            have e1 : ¬ wl_ a b c k <+: L := fun z9 => by rw [if_pos z9] at q71; omega
            have e2 : ¬ wl_ a b c (k + 1) <+: L := by rw [hs]; exact fun z9 => e1 (pre_snoc.mp z9).1
            have hnx := hnx (some (vl r)) none (some (vi (ltr a b c k)))
            rw [if_neg e2, hs, List.length_append] at hnx
            exact hnx
          · refine jj_iload h d_M_isWord_74 rfl ?_
            refine jj_iload_n h d_M_isWord_76 rfl ?_
            refine jj_icmp_ge h 101 d_M_isWord_77 (by decide) ⟨by omega, by omega⟩ ⟨by omega, by omega⟩ (fun q77 => ?_) (fun q77 => ?_)
            · refine jj_iconst h d_M_isWord_101 ?_
              refine jj_istore h d_M_isWord_102 (Nat.le_of_ble_eq_true rfl) rfl ?_
              refine jj_iinc h d_M_isWord_104 rfl rfl ?_
              refine jj_iinc h d_M_isWord_107 rfl rfl ?_
              refine jj_goto h 9 d_M_isWord_110 (by decide) ?_
              have e2 : ¬ wl_ a b c (k + 1) <+: L := by
                rw [hs]; intro z9
                have := (List.getElem?_eq_some_iff.mp (pre_snoc.mp z9).2).1
                omega
              have hnx := hnx (some (vl r)) none (some (vi (ltr a b c k)))
              rw [if_neg e2, hs, List.length_append] at hnx
              exact hnx
            · have hby := hb (p + (wl_ a b c k).length) (by omega) (by omega)
              refine jj_aload_n h d_M_isWord_80 rfl ⟨_, rfl⟩ ?_
              refine jj_g_M_text h  fl_M_22 d_M_isWord_81 ?_
              refine jj_iload_n h d_M_isWord_84 rfl ?_
              refine jj_iload h d_M_isWord_85 rfl ?_
              refine jj_iadd h d_M_isWord_87 ?_
              refine jj_iaload (N := 1400) h (by decide) rfl (by decide) (by omega) (by omega) d_M_isWord_88 ?_
              refine jj_callS h (cM_small ⟨by omega, by omega⟩) cv_M_89 (ro_of he (by decide) (by decide)) rfl rfl rfl (Nat.le_of_ble_eq_true rfl) d_M_isWord_89 (fun v m1 hv => ?_)
              obtain ⟨rfl, rfl⟩ := hv
              refine jj_iload h d_M_isWord_92 rfl ?_
              refine jj_icmp_ne h 101 d_M_isWord_94 (by decide) ⟨by unfold sm_; split <;> omega, by unfold sm_; split <;> omega⟩ ⟨by omega, by omega⟩ (fun q94 => ?_) (fun q94 => ?_)
              · refine jj_iconst h d_M_isWord_101 ?_
                refine jj_istore h d_M_isWord_102 (Nat.le_of_ble_eq_true rfl) rfl ?_
                refine jj_iinc h d_M_isWord_104 rfl rfl ?_
                refine jj_iinc h d_M_isWord_107 rfl rfl ?_
                refine jj_goto h 9 d_M_isWord_110 (by decide) ?_
                have e3 := hLg (wl_ a b c k).length (by omega) (by omega)
                have e2 : ¬ wl_ a b c (k + 1) <+: L := by
                  rw [hs]; intro z9
                  have := (pre_snoc.mp z9).2
                  rw [show (((wl_ a b c k).length : Int)).toNat = (wl_ a b c k).length from rfl] at e3
                  rw [e3] at this
                  exact q94 (Option.some.inj this)
                have hnx := hnx (some (vl r)) none (some (vi (ltr a b c k)))
                rw [if_neg e2, hs, List.length_append] at hnx
                exact hnx
              · refine jj_iconst h d_M_isWord_97 ?_
                refine jj_goto h 102 d_M_isWord_98 (by decide) ?_
                refine jj_istore h d_M_isWord_102 (Nat.le_of_ble_eq_true rfl) rfl ?_
                refine jj_iinc h d_M_isWord_104 rfl rfl ?_
                refine jj_iinc h d_M_isWord_107 rfl rfl ?_
                refine jj_goto h 9 d_M_isWord_110 (by decide) ?_
                have e3 := hLg (wl_ a b c k).length (by omega) (by omega)
                have e1 : wl_ a b c k <+: L := Decidable.byContradiction fun z9 => q71 (by rw [if_neg z9])
                have e2 : wl_ a b c (k + 1) <+: L := by
                  rw [hs]
                  rw [show (((wl_ a b c k).length : Int)).toNat = (wl_ a b c k).length from rfl, q94] at e3
                  exact pre_snoc.mpr ⟨e1, e3⟩
                have hnx := hnx (some (vl r)) none (some (vi (ltr a b c k)))
                rw [if_pos e2, hs, List.length_append] at hnx
                exact hnx
      refine jj_iload h d_M_isWord_9 rfl ?_
      refine jj_bipush h d_M_isWord_11 (by decide) ?_
      refine jj_icmp_ge h 113 d_M_isWord_13 (by decide) ⟨by omega, by omega⟩ ⟨by omega, by omega⟩ (fun q13 => absurd q13 (by omega)) (fun _ => ?_)
      refine jj_iload h d_M_isWord_16 rfl ?_
      refine jj_bipush h d_M_isWord_18 (by decide) ?_
      refine jj_icmp_ge h 27 d_M_isWord_20 (by decide) ⟨by omega, by omega⟩ ⟨by omega, by omega⟩ (fun q20 => ?_) (fun q20 => ?_)
      · refine jj_iload h d_M_isWord_27 rfl ?_
        refine jj_bipush h d_M_isWord_29 (by decide) ?_
        refine jj_icmp_ge h 39 d_M_isWord_31 (by decide) ⟨by omega, by omega⟩ ⟨by omega, by omega⟩ (fun q31 => ?_) (fun q31 => ?_)
        · refine jj_lload h d_M_isWord_39 rfl ?_
          exact body c (by unfold ltr; rw [if_neg (by omega), if_neg (by omega)])
        · refine jj_lload h d_M_isWord_34 rfl ?_
          refine jj_goto h 41 d_M_isWord_36 (by decide) ?_
          exact body b (by unfold ltr; rw [if_neg (by omega), if_pos (by omega)])
      · refine jj_lload_n h d_M_isWord_23 rfl ?_
        refine jj_goto h 41 d_M_isWord_24 (by decide) ?_
        exact body a (by unfold ltr; rw [if_pos (by omega)])
  refine jj_iconst h d_M_isWord_0 ?_
  refine jj_istore h d_M_isWord_1 (Nat.le_of_ble_eq_true rfl) rfl ?_
  refine jj_iconst h d_M_isWord_3 ?_
  refine jj_istore h d_M_isWord_4 (Nat.le_of_ble_eq_true rfl) rfl ?_
  refine jj_iconst h d_M_isWord_6 ?_
  refine jj_istore h d_M_isWord_7 (Nat.le_of_ble_eq_true rfl) rfl ?_
  have e9 := loop 27 0 none none none rfl (by omega)
  have e8 : wl_ a b c 0 <+: L := ⟨L, rfl⟩
  rw [if_pos e8] at e9
  exact e9
theorem wl_cte : wl_ 7196677052775077620 8269659629885888229 487216738105191 27 = w_cte ∧ ∀ k : Nat, k < 27 → 0 ≤ ltr 7196677052775077620 8269659629885888229 487216738105191 k ∧ ltr 7196677052775077620 8269659629885888229 487216738105191 k ≤ 127 := by decide +kernel
theorem wl_ctype : wl_ 7196677052775077620 1996901 0 27 = w_ctype ∧ ∀ k : Nat, k < 27 → 0 ≤ ltr 7196677052775077620 1996901 0 k ∧ ltr 7196677052775077620 1996901 0 k ≤ 127 := by decide +kernel
theorem wl_base64 : wl_ 3393535433524 0 0 27 = w_base64 ∧ ∀ k : Nat, k < 27 → 0 ≤ ltr 3393535433524 0 0 k ∧ ltr 3393535433524 0 0 k ≤ 127 := by decide +kernel
theorem wl_qp : wl_ 8208865467050981490 465605798442597 0 27 = w_qp ∧ ∀ k : Nat, k < 27 → 0 ≤ ltr 8208865467050981490 465605798442597 0 k ∧ ltr 8208865467050981490 465605798442597 0 k ≤ 127 := by decide +kernel
theorem wl_boundary : wl_ 55661328426629497 0 0 27 = w_boundary ∧ ∀ k : Nat, k < 27 → 0 ≤ ltr 55661328426629497 0 0 k ∧ ltr 55661328426629497 0 0 k ≤ 127 := by decide +kernel
theorem wl_message : wl_ 482888516137957 0 0 27 = w_message ∧ ∀ k : Nat, k < 27 → 0 ≤ ltr 482888516137957 0 0 k ∧ ltr 482888516137957 0 0 k ≤ 127 := by decide +kernel
theorem wl_rfc822 : wl_ 3944599132466 0 0 27 = w_rfc822 ∧ ∀ k : Nat, k < 27 → 0 ≤ ltr 3944599132466 0 0 k ∧ ltr 3944599132466 0 0 k ≤ 127 := by decide +kernel
theorem wl_multipart : wl_ 7920621897859496308 0 0 27 = w_multipart ∧ ∀ k : Nat, k < 27 → 0 ≤ ltr 7920621897859496308 0 0 k ∧ ltr 7920621897859496308 0 0 k ≤ 127 := by decide +kernel
