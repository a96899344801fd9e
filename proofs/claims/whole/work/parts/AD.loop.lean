/-! The law's loop. -/
theorem lw_loop {G : mt_G} {X : mt_X} {own : String} {b N : Nat} {xs : Nat → Int32} (h : OK G X c_L_law own 7) (hown : own = R_L) (he : OL G X b N xs) (hN : N ≤ 2560) : ∀ (j k n : Nat) (mem : mt_M) (i : Int) (a5 a6 : Option Value), IV mem → 0 ≤ i → i ≤ 2565 → (N : Int) ≤ i + 5 * j + 4 → k + j ≤ 601024 → n + 6 * j ≤ 7293034 → JJ G X k n mem 23 [some (.ref b), some (vr G 0), some (vr G 182), some (vr G 194), some (vi i), a5, a6] [] := by
  intro j
  induction j with
  | zero =>
    intro k n mem i a5 a6 hI i0 i9 hj hk hn
    refine jj_iload h d_L_law_23 rfl ?_
    refine jj_aload_n h d_L_law_25 rfl ⟨_, rfl⟩ ?_
    refine jj_scl h he d_L_law_26 ?_
    refine jj_iconst h d_L_law_27 ?_
    refine jj_isub h d_L_law_28 ?_
    refine jj_icmp_gt h 672 d_L_law_29 (by decide) ⟨by omega, by omega⟩ ⟨by omega, by omega⟩ (fun _ => ?_) (fun q29 => absurd (by omega) q29)
    refine jj_iconst h d_L_law_672 ?_
    exact jj_lend h he (by omega) (by omega) d_L_law_673
  | succ j ih =>
    intro k n mem i a5 a6 hI i0 i9 hj hk hn
    refine jj_iload h d_L_law_23 rfl ?_
    refine jj_aload_n h d_L_law_25 rfl ⟨_, rfl⟩ ?_
    refine jj_scl h he d_L_law_26 ?_
    refine jj_iconst h d_L_law_27 ?_
    refine jj_isub h d_L_law_28 ?_
    refine jj_icmp_gt h 672 d_L_law_29 (by decide) ⟨by omega, by omega⟩ ⟨by omega, by omega⟩ (fun q29 => ?_) (fun q29 => ?_)
    · refine jj_iconst h d_L_law_672 ?_
      exact jj_lend h he (by omega) (by omega) d_L_law_673
    · refine jj_aload_n h d_L_law_32 rfl ⟨_, rfl⟩ ?_
      refine jj_iload h d_L_law_33 rfl ?_
      refine jj_sc h he hN (by omega) (by omega) d_L_law_35 ?_
      refine jj_bipush h d_L_law_36 (by decide) ?_
      refine jj_iand h d_L_law_38 ?_
      have tail : ∀ (k' n' : Nat) (m' : mt_M) (b5 b6 : Option Value), k' ≤ k + 1 → n' ≤ n + 6 → IV m' → JJ G X k' n' m' 666 [some (.ref b), some (vr G 0), some (vr G 182), some (vr G 194), some (vi i), b5, b6] [] := fun k' n' m' b5 b6 hk' hn' hI' => by
        refine jj_iinc h d_L_law_666 rfl rfl ?_
        refine jj_goto h 23 d_L_law_669 (by decide) ?_
        exact ih k' n' m' (i + 5) b5 b6 hI' (by omega) (by omega) (by omega) (by omega) (by omega)
      generalize hz : iand_ (sq9_ xs i) 15 = z
      have hzr : r32 z := by
        rw [← hz]
        unfold iand_
        exact ⟨Int32.le_toInt _, by have := Int32.toInt_lt (Int32.ofInt (sq9_ xs i) &&& Int32.ofInt 15); omega⟩
      have hcs : z = 0 ∨ z = 1 ∨ z = 2 ∨ z = 3 ∨ z = 4 ∨ z = 5 ∨ z = 6 ∨ z = 7 ∨ z = 8 ∨ z = 9 ∨ z = 10 ∨ z = 11 ∨ (z < 0 ∨ 11 < z) := by omega
      rcases hcs with rfl | rfl | rfl | rfl | rfl | rfl | rfl | rfl | rfl | rfl | rfl | rfl | hzo
      · refine jj_tableIn h 100 d_L_law_39 ⟨by decide, by decide⟩ (by decide) (by decide) rfl (by decide) ?_
        exact lw_op0 h hown he hN hI i0 (by omega) (by omega) (by omega) tail
      · refine jj_tableIn h 169 d_L_law_39 ⟨by decide, by decide⟩ (by decide) (by decide) rfl (by decide) ?_
        exact lw_op1 h hown he hN hI i0 (by omega) (by omega) (by omega) tail
      · refine jj_tableIn h 182 d_L_law_39 ⟨by decide, by decide⟩ (by decide) (by decide) rfl (by decide) ?_
        exact lw_op2 h hown he hN hI i0 (by omega) (by omega) (by omega) tail
      · refine jj_tableIn h 195 d_L_law_39 ⟨by decide, by decide⟩ (by decide) (by decide) rfl (by decide) ?_
        exact lw_op3 h hown he hN hI i0 (by omega) (by omega) (by omega) tail
      · refine jj_tableIn h 208 d_L_law_39 ⟨by decide, by decide⟩ (by decide) (by decide) rfl (by decide) ?_
        exact lw_op4 h hown he hN hI i0 (by omega) (by omega) (by omega) tail
      · refine jj_tableIn h 276 d_L_law_39 ⟨by decide, by decide⟩ (by decide) (by decide) rfl (by decide) ?_
        exact lw_op5 h hown he hN hI i0 (by omega) (by omega) (by omega) tail
      · refine jj_tableIn h 356 d_L_law_39 ⟨by decide, by decide⟩ (by decide) (by decide) rfl (by decide) ?_
        exact lw_op6 h hown he hN hI i0 (by omega) (by omega) (by omega) tail
      · refine jj_tableIn h 448 d_L_law_39 ⟨by decide, by decide⟩ (by decide) (by decide) rfl (by decide) ?_
        exact lw_op7 h hown he hN hI i0 (by omega) (by omega) (by omega) tail
      · refine jj_tableIn h 516 d_L_law_39 ⟨by decide, by decide⟩ (by decide) (by decide) rfl (by decide) ?_
        exact lw_op8 h hown he hN hI i0 (by omega) (by omega) (by omega) tail
      · refine jj_tableIn h 584 d_L_law_39 ⟨by decide, by decide⟩ (by decide) (by decide) rfl (by decide) ?_
        exact lw_op9 h hown he hN hI i0 (by omega) (by omega) (by omega) tail
      · refine jj_tableIn h 628 d_L_law_39 ⟨by decide, by decide⟩ (by decide) (by decide) rfl (by decide) ?_
        exact lw_op10 h hown he hN hI i0 (by omega) (by omega) (by omega) tail
      · refine jj_tableIn h 653 d_L_law_39 ⟨by decide, by decide⟩ (by decide) (by decide) rfl (by decide) ?_
        exact lw_op11 h hown he hN hI i0 (by omega) (by omega) (by omega) tail
      · refine jj_tableOut h 666 d_L_law_39 hzr hzo (by decide) ?_
        exact tail k n mem a5 a6 (by omega) (by omega) hI
