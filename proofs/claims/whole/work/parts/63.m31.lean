/-! The reference: write, written, again. -/
def fZ_ (m m' : mt_M) : Prop := (∀ z : Int, z ≠ 17 → z ≠ 19 → z ≠ 22 → z ≠ 0 → z ≠ 20 → m' 182 z = m 182 z) ∧ (∀ r : Nat, r ≠ 182 → r ≠ 190 → r ≠ 192 → r ≠ 193 → r ≠ 191 → m' r = m r)
/-- what write writes -/
def wrT (L : List mt_E) : List Int := wE_ L 4 0
theorem cM_write0 {G : mt_G} {l : Launch} {mem : mt_M} (hr : mem 182 3 = 0) : CT G l y_M_write c_M_write 2 (some .int) 8 [vr G 182] mem (fun v m' => v = some (vi 0) ∧ st_ mem 182 0 1 = m') := by
  refine CT.intro (by decide) rfl (Nat.le_of_ble_eq_true rfl) (fun X h he => ?_)
  refine jj_aload_n h d_M_write_0 rfl ⟨_, rfl⟩ ?_
  refine jj_aload_n h d_M_write_1 rfl ⟨_, rfl⟩ ?_
  refine jj_g_M_read h  fl_M_217 d_M_write_2 ?_
  try simp only [hr]
  refine jj_if_ne h 12 d_M_write_5 (by decide) ⟨by decide, by decide⟩ (fun q5 => absurd ((by decide)) q5) (fun _ => ?_)
  refine jj_iconst h d_M_write_8 ?_
  refine jj_goto h 13 d_M_write_9 (by decide) ?_
  refine jj_iconst h d_M_write_13 ?_
  refine jj_callV h (cM_fails (Or.inr rfl) (Or.inl rfl)) cv_M_227 (ro_of he (by decide) (by decide)) rfl rfl (by decide) rfl rfl rfl (Nat.le_of_ble_eq_true rfl) d_M_write_14 (fun v m14 hv => ?_)
  obtain ⟨rfl, rfl⟩ := hv
  refine jj_if_eq h 22 d_M_write_17 (by decide) ⟨by decide, by decide⟩ (fun q17 => absurd q17 ((by decide))) (fun _ => ?_)
  refine jj_iconst h d_M_write_20 ?_
  refine jj_iret h he d_M_write_21 ?_
  exact ⟨rfl, rfl⟩
set_option maxHeartbeats 6000000 in
theorem cM_write {G : mt_G} {l : Launch} {mem : mt_M} {L : List mt_E} {W : List Int} (hr : mem 182 3 = 1) (h9 : RM mem L) (hkb : kb_ L) (hti : TI_ L) (hL1 : 1 ≤ L.length) (hd1 : (gE L 0).1 1 = 1) (hW : wrT L = W) : CT G l y_M_write c_M_write 2 (some .int) 8 [vr G 182] mem (fun v m' => fZ_ mem m' ∧ (700 < W.length → v = some (vi 0) ∧ m' 182 0 = 2 ∧ m' 182 20 = mem 182 20 ∧ m' 191 = mem 191) ∧ (¬ 700 < W.length → v = some (vi W.length) ∧ m' 182 0 = 0 ∧ m' 182 20 = W.length ∧ slc (m' 191) 0 W.length = W)) := by
  have hl := h9.2.2.1
  refine CT.intro (by decide) rfl (Nat.le_of_ble_eq_true rfl) (fun X h he => ?_)
  generalize hm3 : st_ (st_ (st_ mem 182 0 0) 182 17 0) 182 22 0 = m3 at *
  have a1 : ∀ z : Int, z ≠ 17 → z ≠ 19 → z ≠ 22 → z ≠ 0 → z ≠ 20 → m3 182 z = mem 182 z := fun z x1 x2 x3 x4 x5 => by rw [← hm3, st_ne (Or.inr x3), st_ne (Or.inr x1), st_ne (Or.inr x4)]
  have a2 : ∀ r : Nat, r ≠ 182 → m3 r = mem r := fun r x1 => by rw [← hm3, st_row x1, st_row x1, st_row x1]
  have a3 : m3 182 17 = 0 := by rw [← hm3, st_ne (by decide), st_same]
  have a4 : m3 182 22 = 0 := by rw [← hm3, st_same]
  have a5 : m3 182 20 = mem 182 20 := by rw [← hm3, st_ne (by decide), st_ne (by decide), st_ne (by decide)]
  have h93 : RM m3 L := h9.mv (a1 _ (by decide) (by decide) (by decide) (by decide) (by decide)) (a1 _ (by decide) (by decide) (by decide) (by decide) (by decide)) (a2 _ (by decide)) (a2 _ (by decide)) (a2 _ (by decide))
  have hWe : W = hd_ (gE L 0) ++ wP_ (wE_ L 3) L 0 ((L.length : Int) - 1).toNat 1 := by rw [← hW]; rfl
  have fin : ∀ m, ws_ m3 m [] W → W.length ≤ 1600000000 → JJ G X 0 0 m 37 [some (vr G 182), none] [] := by
    intro m hw hWl
    obtain ⟨w1, w2, w3, -⟩ := hw
    have o1 := w2.1
    have o2 : m 182 22 = 0 := w3
    by_cases h7 : 700 < W.length
    · refine jj_aload_n h d_M_write_37 rfl ⟨_, rfl⟩ ?_
      refine jj_g_M_open h  fl_M_269 d_M_write_38 ?_
      try simp only [o1, o2]
      refine jj_if_le h 51 d_M_write_41 (by decide) ⟨by decide, by decide⟩ (fun _ => ?_) (fun q41 => absurd ((by decide)) q41)
      refine jj_aload_n h d_M_write_51 rfl ⟨_, rfl⟩ ?_
      refine jj_iconst h d_M_write_52 ?_
      refine jj_aload_n h d_M_write_53 rfl ⟨_, rfl⟩ ?_
      refine jj_g_M_out h  fl_M_235 d_M_write_54 ?_
      try simp only [o1, o2]
      refine jj_sipush h d_M_write_57 (by decide) ?_
      refine jj_icmp_le h 67 d_M_write_60 (by decide) ⟨by omega, by omega⟩ ⟨by omega, by omega⟩ (fun q60 => absurd q60 (by omega)) (fun _ => ?_)
      refine jj_iconst h d_M_write_63 ?_
      refine jj_goto h 68 d_M_write_64 (by decide) ?_
      refine jj_callV h (cM_fails (Or.inl rfl) (Or.inr rfl)) cv_M_227 (ro_of he (by decide) (by decide)) rfl rfl (by decide) rfl rfl rfl (Nat.le_of_ble_eq_true rfl) d_M_write_68 (fun v m68 hv => ?_)
      obtain ⟨rfl, rfl⟩ := hv
      refine jj_if_eq h 76 d_M_write_71 (by decide) ⟨by decide, by decide⟩ (fun q71 => absurd q71 ((by decide))) (fun _ => ?_)
      refine jj_iconst h d_M_write_74 ?_
      refine jj_iret h he d_M_write_75 ?_
      refine ⟨⟨fun z x1 x2 x3 x4 x5 => ?_, fun r x1 x2 x3 x4 x5 => ?_⟩, fun _ => ⟨rfl, st_same, ?_, ?_⟩, fun z => absurd h7 z⟩
      · rw [st_ne (Or.inr x4), w1.1 z x1 x2 x3]; exact a1 z x1 x2 x3 x4 x5
      · rw [st_row x1, w1.2 r x1 x2 x3 x4]; exact a2 r x1
      · rw [st_ne (by decide), w1.1 _ (by decide) (by decide) (by decide)]; exact a5
      · rw [st_row (by decide), w1.2 _ (by decide) (by decide) (by decide) (by decide)]; exact a2 _ (by decide)
    · have hfile := w2.2 (by omega)
      generalize hm5 : st_ (st_ m 182 0 0) 182 20 W.length = m5 at *
      have b1 : m5 182 17 = W.length := by rw [← hm5, st_ne (by decide), st_ne (by decide)]; exact o1
      have b2 : m5 190 = m 190 := by rw [← hm5, st_row (by decide), st_row (by decide)]
      have loop : ∀ (j : Nat) (k : Int), (W.length - k).toNat = j → 0 ≤ k → k ≤ W.length → JJ G X 0 0 (wrL m5 191 0 (slc (m 190) 0 k)) 86 [some (vr G 182), some (vi k)] [] := by
        intro j
        induction j with
        | zero =>
          intro k hj k0 k1
          have hk : k = W.length := by omega
          subst hk
          have hX : (wrL m5 191 0 (slc (m 190) 0 W.length)) 182 17 = W.length := by rw [wrL_row (by decide)]; exact b1
          refine jj_iload_n h d_M_write_86 rfl ?_
          refine jj_aload_n h d_M_write_87 rfl ⟨_, rfl⟩ ?_
          refine jj_g_M_out h  fl_M_235 d_M_write_88 ?_
          try simp only [hX]
          refine jj_icmp_ge h 112 d_M_write_91 (by decide) ⟨by omega, by omega⟩ ⟨by omega, by omega⟩ (fun _ => ?_) (fun q91 => absurd (by omega) q91)
          refine jj_aload_n h d_M_write_112 rfl ⟨_, rfl⟩ ?_
          refine jj_g_M_out h  fl_M_235 d_M_write_113 ?_
          try simp only [hX]
          refine jj_iret h he d_M_write_116 ?_
          rw [hfile]
          refine ⟨⟨fun z x1 x2 x3 x4 x5 => ?_, fun r x1 x2 x3 x4 x5 => ?_⟩, fun z => absurd z h7, fun _ => ⟨rfl, ?_, ?_, ?_⟩⟩
          · rw [wrL_row (by decide), ← hm5, st_ne (Or.inr x5), st_ne (Or.inr x4), w1.1 z x1 x2 x3]; exact a1 z x1 x2 x3 x4 x5
          · rw [wrL_row x5, ← hm5, st_row x1, st_row x1, w1.2 r x1 x2 x3 x4]; exact a2 r x1
          · rw [wrL_row (by decide), ← hm5, st_ne (by decide), st_same]
          · rw [wrL_row (by decide), ← hm5, st_same]
          · have := wrL_slc (r := 191) W m5 0
            rw [Int.zero_add] at this
            exact this
        | succ j ih =>
          intro k hj k0 k1
          have hX : (wrL m5 191 0 (slc (m 190) 0 k)) 182 17 = W.length := by rw [wrL_row (by decide)]; exact b1
          have hF : (wrL m5 191 0 (slc (m 190) 0 k)) 190 = m 190 := by rw [wrL_row (by decide)]; exact b2
          refine jj_iload_n h d_M_write_86 rfl ?_
          refine jj_aload_n h d_M_write_87 rfl ⟨_, rfl⟩ ?_
          refine jj_g_M_out h  fl_M_235 d_M_write_88 ?_
          try simp only [hX]
          refine jj_icmp_ge h 112 d_M_write_91 (by decide) ⟨by omega, by omega⟩ ⟨by omega, by omega⟩ (fun q91 => absurd q91 (by omega)) (fun _ => ?_)
          refine jj_aload_n h d_M_write_94 rfl ⟨_, rfl⟩ ?_
          refine jj_g_M_kept h  fl_M_34 d_M_write_95 ?_
          try simp only [hX]
          refine jj_iload_n h d_M_write_98 rfl ?_
          refine jj_aload_n h d_M_write_99 rfl ⟨_, rfl⟩ ?_
          refine jj_g_M_file h  fl_M_31 d_M_write_100 ?_
          try simp only [hX]
          refine jj_iload_n h d_M_write_103 rfl ?_
          refine jj_iaload (N := 1800) h (by decide) rfl (by decide) (by omega) (by omega) d_M_write_104 ?_
          rw [hF]
          refine jj_iastore (N := 700) h (by decide) (fun _ => rfl) (by decide) (by omega) (by omega) d_M_write_105 ?_
          refine jj_iinc h d_M_write_106 rfl rfl ?_
          refine jj_goto h 86 d_M_write_109 (by decide) ?_
          have := ih (k + 1) (by omega) (by omega) (by omega)
          rw [slc_snoc k0, wrL_snoc, slc_lenI k0, show (0 : Int) + (k - 0) = k by omega] at this
          exact this
      have o3 : st_ m 182 0 0 182 17 = W.length := by rw [st_ne (by decide)]; exact o1
      refine jj_aload_n h d_M_write_37 rfl ⟨_, rfl⟩ ?_
      refine jj_g_M_open h  fl_M_269 d_M_write_38 ?_
      try simp only [o1, o2, o3]
      refine jj_if_le h 51 d_M_write_41 (by decide) ⟨by decide, by decide⟩ (fun _ => ?_) (fun q41 => absurd ((by decide)) q41)
      refine jj_aload_n h d_M_write_51 rfl ⟨_, rfl⟩ ?_
      refine jj_iconst h d_M_write_52 ?_
      refine jj_aload_n h d_M_write_53 rfl ⟨_, rfl⟩ ?_
      refine jj_g_M_out h  fl_M_235 d_M_write_54 ?_
      try simp only [o1, o2, o3]
      refine jj_sipush h d_M_write_57 (by decide) ?_
      refine jj_icmp_le h 67 d_M_write_60 (by decide) ⟨by omega, by omega⟩ ⟨by omega, by omega⟩ (fun _ => ?_) (fun q60 => absurd (by omega) q60)
      refine jj_iconst h d_M_write_67 ?_
      refine jj_callV h (cM_fails (Or.inl rfl) (Or.inl rfl)) cv_M_227 (ro_of he (by decide) (by decide)) rfl rfl (by decide) rfl rfl rfl (Nat.le_of_ble_eq_true rfl) d_M_write_68 (fun v m68 hv => ?_)
      obtain ⟨rfl, rfl⟩ := hv
      rw [show fl_ 0 0 = 0 from rfl]
      refine jj_if_eq h 76 d_M_write_71 (by decide) ⟨by decide, by decide⟩ (fun _ => ?_) (fun q71 => absurd (rfl) q71)
      refine jj_aload_n h d_M_write_76 rfl ⟨_, rfl⟩ ?_
      refine jj_aload_n h d_M_write_77 rfl ⟨_, rfl⟩ ?_
      refine jj_g_M_out h  fl_M_235 d_M_write_78 ?_
      try simp only [o1, o2, o3]
      refine jj_p_M_written h  fl_M_285 d_M_write_81 ?_
      rw [hm5]
      refine jj_iconst h d_M_write_84 ?_
      refine jj_istore_n h d_M_write_85 (Nat.le_of_ble_eq_true rfl) rfl ?_
      have := loop _ 0 rfl (by omega) (by omega)
      rw [slc_nil (by omega)] at this
      exact this
  have body := run_ (L := L) (m0 := m3) (P := fun m => JJ G X 0 0 m 37 [some (vr G 182), none] []) hti hl (by
    intro m e nx R A K hw e0 e1 n0 n1 hR hv hA hK hc
    have hO : m 182 22 = (R.length : Int) + 1 := by rw [hw.2.2.1, List.length_cons]; omega
    show JJ G X 0 0 m 37 _ _
    refine jj_aload_n h d_M_write_37 rfl ⟨_, rfl⟩ ?_
    refine jj_g_M_open h  fl_M_269 d_M_write_38 ?_
    try simp only [hO]
    refine jj_if_le h 51 d_M_write_41 (by decide) ⟨by omega, by omega⟩ (fun q41 => absurd q41 (by omega)) (fun _ => ?_)
    refine jj_aload_n h d_M_write_44 rfl ⟨_, rfl⟩ ?_
    refine jj_callV h (cM_goesOn h93 hkb hw e0 e1 n0 n1 hR hv hA hK) cv_M_282 (ro_of he (by decide) (by decide)) rfl rfl (by decide) rfl rfl rfl (Nat.le_of_ble_eq_true rfl) d_M_write_45 (fun v m45 hv => ?_)
    obtain ⟨rfl, v1, v2, v3⟩ := hv
    refine jj_goto h 37 d_M_write_48 (by decide) ?_
    exact hc _ v2 v3 v1
    )
  have start : ∀ m1, wc_ m3 (hd_ (gE L 0)) m1 → m1 182 17 ≤ m3 182 17 + 50000 → JJ G X 0 0 (st_ (st_ (st_ m1 192 0 0) 193 0 (0 + 1)) 182 22 (0 + 1)) 37 [some (vr G 182), none] [] := by
    intro m1 hm hlen
    have hmo := hm.out
    have hb3 : wb_ 3 = 32760000 := rfl
    have hf0 : fO_ m3 m3 := ⟨fun _ _ _ _ => rfl, fun _ _ _ _ _ => rfl⟩
    have hA0 : fA_ m3 [] := ⟨a3, fun _ => slc_nil (by decide)⟩
    refine body 3 16 0 1 [] (hd_ (gE L 0)) _ (by decide) (by omega) (by rw [hd1]; decide) (by omega) (by omega) (by omega) (by omega) (fun q R' hq => by injection hq) ⟨(hf0.wc hm).oe.on.op, ?_, ?_, ?_⟩ (by rw [hb3]; omega) (fun m' hw hlen2 => ?_)
    · exact (hA0.wc hm).fr (by rw [st_ne (by decide), st_row (by decide), st_row (by decide)]) (by rw [st_row (by decide), st_row (by decide), st_row (by decide)])
    · rw [st_same]; rfl
    · exact ⟨by rw [st_row (by decide), st_row (by decide)]; exact st_same, by rw [st_row (by decide)]; exact st_same, trivial⟩
    · have e1 : hd_ (gE L 0) ++ wP_ (wE_ L 3) L 0 ((L.length : Int) - 1).toNat 1 ++ nlR L [] = W := by rw [hWe]; exact List.append_nil _
      rw [e1] at hw hlen2
      exact fin m' hw (by rw [hb3] at hlen2; omega)
  have hr1 : ∀ v, st_ mem 182 0 v 182 3 = 1 := fun v => by rw [st_ne (by decide)]; exact hr
  refine jj_aload_n h d_M_write_0 rfl ⟨_, rfl⟩ ?_
  refine jj_aload_n h d_M_write_1 rfl ⟨_, rfl⟩ ?_
  refine jj_g_M_read h  fl_M_217 d_M_write_2 ?_
  try simp only [hr]
  refine jj_if_ne h 12 d_M_write_5 (by decide) ⟨by decide, by decide⟩ (fun _ => ?_) (fun q5 => absurd q5 ((by decide)))
  refine jj_iconst h d_M_write_12 ?_
  refine jj_iconst h d_M_write_13 ?_
  refine jj_callV h (cM_fails (Or.inl rfl) (Or.inl rfl)) cv_M_227 (ro_of he (by decide) (by decide)) rfl rfl (by decide) rfl rfl rfl (Nat.le_of_ble_eq_true rfl) d_M_write_14 (fun v m14 hv => ?_)
  obtain ⟨rfl, rfl⟩ := hv
  rw [show fl_ 0 0 = 0 from rfl]
  refine jj_if_eq h 22 d_M_write_17 (by decide) ⟨by decide, by decide⟩ (fun _ => ?_) (fun q17 => absurd (rfl) q17)
  refine jj_aload_n h d_M_write_22 rfl ⟨_, rfl⟩ ?_
  refine jj_iconst h d_M_write_23 ?_
  refine jj_p_M_out h  fl_M_235 d_M_write_24 ?_
  refine jj_aload_n h d_M_write_27 rfl ⟨_, rfl⟩ ?_
  refine jj_iconst h d_M_write_28 ?_
  refine jj_p_M_open h  fl_M_269 d_M_write_29 ?_
  rw [hm3]
  refine jj_aload_n h d_M_write_32 rfl ⟨_, rfl⟩ ?_
  refine jj_iconst h d_M_write_33 ?_
  refine jj_callV h (cM_opens h93 hkb (by omega) (by omega) (by omega) (by omega) a4 (by omega) (by omega)) cv_M_279 (ro_of he (by decide) (by decide)) rfl rfl (by decide) rfl rfl rfl (Nat.le_of_ble_eq_true rfl) d_M_write_34 (fun v m34 hv => ?_)
  obtain ⟨rfl, m1, hm1, hl1, rfl⟩ := hv
  exact start m1 hm1 hl1
theorem cM_written {G : mt_G} {l : Launch} {mem : mt_M} {i : Int} (h0 : 0 ≤ mem 182 20) (h1 : mem 182 20 ≤ 700) (hi : r32 i) : CT G l y_M_written c_M_written 2 (some .int) 1 [vr G 182, vi i] mem (fun v m' => v = some (vi (if 0 ≤ i ∧ i < mem 182 20 then mem 191 i else -1)) ∧ st_ mem 182 0 0 = m') := by
  obtain ⟨i1, i2⟩ := hi
  refine CT.intro (by decide) rfl (Nat.le_of_ble_eq_true rfl) (fun X h he => ?_)
  have hs : st_ mem 182 0 0 182 20 = mem 182 20 := st_ne (by decide)
  have hk : st_ mem 182 0 0 191 = mem 191 := st_row (by decide)
  refine jj_aload_n h d_M_written_0 rfl ⟨_, rfl⟩ ?_
  refine jj_iconst h d_M_written_1 ?_
  refine jj_p_M_thrown h  fl_M_43 d_M_written_2 ?_
  refine jj_iload_n h d_M_written_5 rfl ?_
  refine jj_if_lt h 17 d_M_written_6 (by decide) ⟨by omega, by omega⟩ (fun q6 => ?_) (fun q6 => ?_)
  · refine jj_iconst h d_M_written_17 ?_
    refine jj_goto h 27 d_M_written_18 (by decide) ?_
    refine jj_iret h he d_M_written_27 ?_
    exact ⟨by rw [if_neg (by omega)], rfl⟩
  · refine jj_iload_n h d_M_written_9 rfl ?_
    refine jj_aload_n h d_M_written_10 rfl ⟨_, rfl⟩ ?_
    refine jj_g_M_written h  fl_M_285 d_M_written_11 ?_
    try simp only [hs, hk]
    refine jj_icmp_lt h 21 d_M_written_14 (by decide) ⟨by omega, by omega⟩ ⟨by omega, by omega⟩ (fun q14 => ?_) (fun q14 => ?_)
    · refine jj_aload_n h d_M_written_21 rfl ⟨_, rfl⟩ ?_
      refine jj_g_M_kept h  fl_M_34 d_M_written_22 ?_
      try simp only [hs, hk]
      refine jj_iload_n h d_M_written_25 rfl ?_
      refine jj_iaload (N := 700) h (by decide) rfl (by decide) (by omega) (by omega) d_M_written_26 ?_
      try simp only [hs, hk]
      refine jj_iret h he d_M_written_27 ?_
      exact ⟨by rw [if_pos (by omega)], rfl⟩
    · refine jj_iconst h d_M_written_17 ?_
      refine jj_goto h 27 d_M_written_18 (by decide) ?_
      refine jj_iret h he d_M_written_27 ?_
      exact ⟨by rw [if_neg (by omega)], rfl⟩
theorem cM_again {G : mt_G} {l : Launch} {mem : mt_M} {N : Int} (h0 : 0 ≤ mem 182 20) (h1 : mem 182 20 ≤ 700) (hN : N = if mem 182 20 < 320 then mem 182 20 else 320) : CT G l y_M_again c_M_again 2 (some .int) 1 [vr G 182] mem (fun v m' => v = some (vi N) ∧ wrL (st_ (st_ mem 182 0 0) 182 1 N) 183 0 (slc (mem 191) 0 N) = m') := by
  refine CT.intro (by decide) rfl (Nat.le_of_ble_eq_true rfl) (fun X h he => ?_)
  have hs : st_ mem 182 0 0 182 20 = mem 182 20 := st_ne (by decide)
  have N0 : 0 ≤ N := by rw [hN]; split <;> omega
  have N1 : N ≤ 320 := by rw [hN]; split <;> omega
  generalize hm5 : st_ (st_ mem 182 0 0) 182 1 N = m5 at *
  have b1 : m5 182 1 = N := by rw [← hm5, st_same]
  have b2 : m5 191 = mem 191 := by rw [← hm5, st_row (by decide), st_row (by decide)]
  have loop : ∀ (j : Nat) (k : Int), (N - k).toNat = j → 0 ≤ k → k ≤ N → JJ G X 0 0 (wrL m5 183 0 (slc (mem 191) 0 k)) 31 [some (vr G 182), some (vi k)] [] := by
    intro j
    induction j with
    | zero =>
      intro k hj k0 k1
      have hk : k = N := by omega
      subst hk
      have hX : (wrL m5 183 0 (slc (mem 191) 0 k)) 182 1 = k := by rw [wrL_row (by decide)]; exact b1
      refine jj_iload_n h d_M_again_31 rfl ?_
      refine jj_aload_n h d_M_again_32 rfl ⟨_, rfl⟩ ?_
      refine jj_g_M_fed h  fl_M_47 d_M_again_33 ?_
      try simp only [hX]
      refine jj_icmp_ge h 57 d_M_again_36 (by decide) ⟨by omega, by omega⟩ ⟨by omega, by omega⟩ (fun _ => ?_) (fun q36 => absurd (by omega) q36)
      refine jj_aload_n h d_M_again_57 rfl ⟨_, rfl⟩ ?_
      refine jj_g_M_fed h  fl_M_47 d_M_again_58 ?_
      try simp only [hX]
      refine jj_iret h he d_M_again_61 ?_
      exact ⟨rfl, rfl⟩
    | succ j ih =>
      intro k hj k0 k1
      have hX : (wrL m5 183 0 (slc (mem 191) 0 k)) 182 1 = N := by rw [wrL_row (by decide)]; exact b1
      have hF : (wrL m5 183 0 (slc (mem 191) 0 k)) 191 = mem 191 := by rw [wrL_row (by decide)]; exact b2
      refine jj_iload_n h d_M_again_31 rfl ?_
      refine jj_aload_n h d_M_again_32 rfl ⟨_, rfl⟩ ?_
      refine jj_g_M_fed h  fl_M_47 d_M_again_33 ?_
      try simp only [hX]
      refine jj_icmp_ge h 57 d_M_again_36 (by decide) ⟨by omega, by omega⟩ ⟨by omega, by omega⟩ (fun q36 => absurd q36 (by omega)) (fun _ => ?_)
      refine jj_aload_n h d_M_again_39 rfl ⟨_, rfl⟩ ?_
      refine jj_g_M_message h  fl_M_7 d_M_again_40 ?_
      try simp only [hX]
      refine jj_iload_n h d_M_again_43 rfl ?_
      refine jj_aload_n h d_M_again_44 rfl ⟨_, rfl⟩ ?_
      refine jj_g_M_kept h  fl_M_34 d_M_again_45 ?_
      try simp only [hX]
      refine jj_iload_n h d_M_again_48 rfl ?_
      refine jj_iaload (N := 700) h (by decide) rfl (by decide) (by omega) (by omega) d_M_again_49 ?_
      rw [hF]
      refine jj_iastore (N := 320) h (by decide) (fun _ => rfl) (by decide) (by omega) (by omega) d_M_again_50 ?_
      refine jj_iinc h d_M_again_51 rfl rfl ?_
      refine jj_goto h 31 d_M_again_54 (by decide) ?_
      have := ih (k + 1) (by omega) (by omega) (by omega)
      rw [slc_snoc k0, wrL_snoc, slc_lenI k0, show (0 : Int) + (k - 0) = k by omega] at this
      exact this
  refine jj_aload_n h d_M_again_0 rfl ⟨_, rfl⟩ ?_
  refine jj_iconst h d_M_again_1 ?_
  refine jj_p_M_thrown h  fl_M_43 d_M_again_2 ?_
  refine jj_aload_n h d_M_again_5 rfl ⟨_, rfl⟩ ?_
  refine jj_aload_n h d_M_again_6 rfl ⟨_, rfl⟩ ?_
  refine jj_g_M_written h  fl_M_285 d_M_again_7 ?_
  try simp only [hs]
  refine jj_sipush h d_M_again_10 (by decide) ?_
  refine jj_icmp_ge h 23 d_M_again_13 (by decide) ⟨by omega, by omega⟩ ⟨by omega, by omega⟩ (fun q13 => ?_) (fun q13 => ?_)
  · refine jj_sipush h d_M_again_23 (by decide) ?_
    refine jj_p_M_fed h  fl_M_47 d_M_again_26 ?_
    rw [show (320 : Int) = N by rw [hN, if_neg (by omega)], hm5]
    refine jj_iconst h d_M_again_29 ?_
    refine jj_istore_n h d_M_again_30 (Nat.le_of_ble_eq_true rfl) rfl ?_
    have := loop _ 0 rfl (by omega) (by omega)
    rw [slc_nil (by omega)] at this
    exact this
  · refine jj_aload_n h d_M_again_16 rfl ⟨_, rfl⟩ ?_
    refine jj_g_M_written h  fl_M_285 d_M_again_17 ?_
    try simp only [hs]
    refine jj_goto h 26 d_M_again_20 (by decide) ?_
    refine jj_p_M_fed h  fl_M_47 d_M_again_26 ?_
    rw [show mem 182 20 = N by rw [hN, if_pos (by omega)], hm5]
    refine jj_iconst h d_M_again_29 ?_
    refine jj_istore_n h d_M_again_30 (Nat.le_of_ble_eq_true rfl) rfl ?_
    have := loop _ 0 rfl (by omega) (by omega)
    rw [slc_nil (by omega)] at this
    exact this
