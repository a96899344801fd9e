/-! The class: feed. -/
theorem cX_feed {G : mt_G} {l : Launch} {mem : mt_M} {v n : Int} (h0 : 0 ≤ mem 1 1) (h1 : mem 1 1 ≤ 320) (hn : r32 n) : CT G l y_X_feed c_X_feed 5 (some .boolean) 2 [vr G 0, vl v, vi n] mem (fun x m' => (fdOk (mem 1 1) n → x = some (vi 1) ∧ bL_ mem 1 (bts v n) = m') ∧ (¬ fdOk (mem 1 1) n → x = some (vi 0) ∧ mem = m')) := by
  obtain ⟨n1, n2⟩ := hn
  have hl9 : ln_ (1 + 8) = 320 := rfl
  refine CT.intro (by decide) rfl (Nat.le_of_ble_eq_true rfl) (fun X h he => ?_)
  unfold fdOk at he
  have loop : ∀ (j : Nat) (k : Int), (n - k).toNat = j → 0 ≤ k → k ≤ n → 1 ≤ n → n ≤ 8 → mem 1 1 + n ≤ 320 → JJ G X 0 0 (bL_ mem 1 (slc (bt v) 0 k)) 31 [some (vr G 0), some (vl v), none, some (vi n), some (vi k)] [] := by
    intro j
    induction j with
    | zero =>
      intro k hj hk0 hk1 a1 a2 a3
      have hkn : k = n := by omega
      subst hkn
      refine jj_iload h d_X_feed_31 rfl ?_
      refine jj_iload_n h d_X_feed_33 rfl ?_
      refine jj_icmp_ge h 62 d_X_feed_34 (by decide) ⟨by omega, by omega⟩ ⟨by omega, by omega⟩ (fun _ => ?_) (fun q34 => absurd (by omega) q34)
      refine jj_iconst h d_X_feed_62 ?_
      refine jj_zret h he (by omega) d_X_feed_63 ?_
      exact ⟨fun _ => ⟨rfl, rfl⟩, fun z => by omega⟩
    | succ j ih =>
      intro k hj hk0 hk1 a1 a2 a3
      have e3 := bL_size (r := 1) (slc (bt v) 0 k) mem h0 (by rw [hl9]; exact h1)
      refine jj_iload h d_X_feed_31 rfl ?_
      refine jj_iload_n h d_X_feed_33 rfl ?_
      refine jj_icmp_ge h 62 d_X_feed_34 (by decide) ⟨by omega, by omega⟩ ⟨by omega, by omega⟩ (fun q34 => absurd q34 (by omega)) (fun _ => ?_)
      refine jj_aload_n h d_X_feed_37 rfl ⟨_, rfl⟩ ?_
      refine jj_g_X_message h  fl_X_14 d_X_feed_38 ?_
      refine jj_lload_n h d_X_feed_41 rfl ?_
      refine jj_bipush h d_X_feed_42 (by decide) ?_
      refine jj_iload h d_X_feed_44 rfl ?_
      refine jj_imul h d_X_feed_46 ?_
      refine jj_lushr h d_X_feed_47 ?_
      refine jj_l2i h d_X_feed_48 ?_
      refine jj_sipush h d_X_feed_49 (by decide) ?_
      refine jj_iand h d_X_feed_52 ?_
      rw [bt_eq hk0 (by omega)]
      refine jj_callV h (cB_put ⟨by decide, by decide⟩ e3.1 e3.2) cv_X_41 (ro_of he (by decide) (by decide)) rfl rfl (by unfold mt_N; omega) (ce_B (by omega)) rfl rfl (Nat.le_of_ble_eq_true rfl) d_X_feed_53 (fun v m53 hv => ?_)
      obtain ⟨rfl, rfl⟩ := hv
      refine jj_iinc h d_X_feed_56 rfl rfl ?_
      refine jj_goto h 31 d_X_feed_59 (by decide) ?_
      have := ih (k + 1) (by omega) (by omega) (by omega) a1 a2 a3
      rw [slc_snoc hk0, bL_snoc] at this
      exact this
  refine jj_iload_n h d_X_feed_0 rfl ?_
  refine jj_iconst h d_X_feed_1 ?_
  refine jj_icmp_lt h 26 d_X_feed_2 (by decide) ⟨by omega, by omega⟩ ⟨by omega, by omega⟩ (fun q2 => ?_) (fun q2 => ?_)
  · refine jj_iconst h d_X_feed_26 ?_
    refine jj_zret h he (by omega) d_X_feed_27 ?_
    exact ⟨fun z => by omega, fun _ => ⟨rfl, rfl⟩⟩
  · refine jj_iload_n h d_X_feed_5 rfl ?_
    refine jj_bipush h d_X_feed_6 (by decide) ?_
    refine jj_icmp_gt h 26 d_X_feed_8 (by decide) ⟨by omega, by omega⟩ ⟨by omega, by omega⟩ (fun q8 => ?_) (fun q8 => ?_)
    · refine jj_iconst h d_X_feed_26 ?_
      refine jj_zret h he (by omega) d_X_feed_27 ?_
      exact ⟨fun z => by omega, fun _ => ⟨rfl, rfl⟩⟩
    · refine jj_aload_n h d_X_feed_11 rfl ⟨_, rfl⟩ ?_
      refine jj_g_X_message h  fl_X_14 d_X_feed_12 ?_
      refine jj_g_B_size h (by omega) fl_X_37 d_X_feed_15 ?_
      refine jj_iload_n h d_X_feed_18 rfl ?_
      refine jj_iadd h d_X_feed_19 ?_
      refine jj_sipush h d_X_feed_20 (by decide) ?_
      refine jj_icmp_le h 28 d_X_feed_23 (by decide) ⟨by omega, by omega⟩ ⟨by omega, by omega⟩ (fun q23 => ?_) (fun q23 => ?_)
      · refine jj_iconst h d_X_feed_28 ?_
        refine jj_istore h d_X_feed_29 (Nat.le_of_ble_eq_true rfl) rfl ?_
        exact loop n.toNat 0 (by omega) (by omega) (by omega) (by omega) (by omega) (by omega)
      · refine jj_iconst h d_X_feed_26 ?_
        refine jj_zret h he (by omega) d_X_feed_27 ?_
        exact ⟨fun z => by omega, fun _ => ⟨rfl, rfl⟩⟩
