/-! The reference writes an entity's head and content, a delimiter; the next part. -/
def hF_ : List (List Int × List Int) → List Int
  | [] => []
  | q :: t => q.1 ++ [58] ++ [32] ++ q.2 ++ [13, 10] ++ hF_ t
def ct_ (E : mt_E) : List Int := if E.1 0 = 0 then (if E.1 4 = 1 then b6_ 0 E.2.2.1 else if E.1 4 = 2 then qe_ 0 E.2.2.1 else E.2.2.1) else []
def hd_ (E : mt_E) : List Int := hF_ E.2.1 ++ [13, 10] ++ ct_ E
/-- kinds, encodings and parents are small -/
def kb_ (L : List mt_E) : Prop := ∀ e : Int, 0 ≤ e → e < L.length → (0 ≤ (gE L e).1 0 ∧ (gE L e).1 0 ≤ 2) ∧ (0 ≤ (gE L e).1 4 ∧ (gE L e).1 4 ≤ 2) ∧ (-1 ≤ (gE L e).1 2 ∧ (gE L e).1 2 < e)
theorem hF_drop {L : List mt_E} {e : Int} {f : Nat} (h : f < (gE L e).2.1.length) : hF_ ((gE L e).2.1.drop f) = (gF L e f).1 ++ [58] ++ [32] ++ (gF L e f).2 ++ [13, 10] ++ hF_ ((gE L e).2.1.drop (f + 1)) := by
  have e1 : (gE L e).2.1.drop f = gF L e f :: (gE L e).2.1.drop (f + 1) := by
    unfold gF
    rw [Int.toNat_natCast, List.getD_eq_getElem?_getD, List.getElem?_eq_getElem h]
    exact List.drop_eq_getElem_cons h
  rw [e1]; rfl
set_option maxHeartbeats 6000000 in
theorem cM_putHead {G : mt_G} {l : Launch} {mem : mt_M} {L : List mt_E} {e : Int} (h9 : RM mem L) (hkb : kb_ L) (e0 : 0 ≤ e) (e1 : e < L.length) (h0 : 0 ≤ mem 182 17) (h1 : mem 182 17 ≤ 1700000000) : CT G l y_M_putHead c_M_putHead 3 none 4 [vr G 182, vi e] mem (fun v m' => v = none ∧ wc_ mem (hd_ (gE L e)) m' ∧ m' 182 17 ≤ mem 182 17 + 50000) := by
  have hl := h9.2.2.1
  have ht := h9.2.2.2
  have hR := h9.at e0 e1
  have h3 := hR.2.1.1
  have h8 := hR.2.1.2.1
  have k0 := hR.1 0 (by decide) (by decide)
  have k4 := hR.1 4 (by decide) (by decide)
  have k5 := hR.1 5 (by decide) (by decide)
  obtain ⟨c1, c2, c3, c4⟩ := hR.2.2.1
  obtain ⟨⟨b1, b2⟩, ⟨b3, b4⟩, -⟩ := hkb e e0 e1
  have t1 := ht.2.1
  refine CT.intro (by decide) rfl (Nat.le_of_ble_eq_true rfl) (fun X h he => ?_)
  have rest : ∀ (m1 : mt_M) (x : Option Value), wc_ mem (hF_ (gE L e).2.1 ++ [13, 10]) m1 → m1 182 17 ≤ mem 182 17 + 30000 → JJ G X 0 0 m1 74 [some (vr G 182), some (vi e), x] [] := by
    intro m1 x hm hlen
    have ho := hm.out
    have hX := hm.row (r := 187) (by decide) (by decide)
    have hD := hm.row (r := 185) (by decide) (by decide)
    have hby : by_ (m1 187) (mem 185 (16 * e + 10)) (mem 185 (16 * e + 10) + (gE L e).1 5) := fun i a b => by rw [hX]; exact ht.2.2 i (by omega) (by omega)
    unfold hd_ ct_ at he
    have bl : (gE L e).2.2.1.length ≤ 1400 := by omega
    refine jj_aload_n h d_M_putHead_74 rfl ⟨_, rfl⟩ ?_
    refine jj_iload_n h d_M_putHead_75 rfl ?_
    refine jj_iconst h d_M_putHead_76 ?_
    refine jj_callV h (cM_of (by omega) (by omega)) cv_M_59 (ro_of he (by decide) (by decide)) rfl rfl (by decide) rfl rfl rfl (Nat.le_of_ble_eq_true rfl) d_M_putHead_77 (fun v m77 hv => ?_)
    obtain ⟨rfl, rfl⟩ := hv
    rw [hD, k0]
    refine jj_if_eq h 84 d_M_putHead_80 (by decide) ⟨by omega, by omega⟩ (fun q80 => ?_) (fun q80 => ?_)
    · refine jj_aload_n h d_M_putHead_84 rfl ⟨_, rfl⟩ ?_
      refine jj_iload_n h d_M_putHead_85 rfl ?_
      refine jj_iconst h d_M_putHead_86 ?_
      refine jj_callV h (cM_of (by omega) (by omega)) cv_M_59 (ro_of he (by decide) (by decide)) rfl rfl (by decide) rfl rfl rfl (Nat.le_of_ble_eq_true rfl) d_M_putHead_87 (fun v m87 hv => ?_)
      obtain ⟨rfl, rfl⟩ := hv
      rw [hD, k4]
      refine jj_iconst h d_M_putHead_90 ?_
      refine jj_icmp_ne h 114 d_M_putHead_91 (by decide) ⟨by omega, by omega⟩ ⟨by omega, by omega⟩ (fun q91 => ?_) (fun q91 => ?_)
      · refine jj_aload_n h d_M_putHead_114 rfl ⟨_, rfl⟩ ?_
        refine jj_iload_n h d_M_putHead_115 rfl ?_
        refine jj_iconst h d_M_putHead_116 ?_
        refine jj_callV h (cM_of (by omega) (by omega)) cv_M_59 (ro_of he (by decide) (by decide)) rfl rfl (by decide) rfl rfl rfl (Nat.le_of_ble_eq_true rfl) d_M_putHead_117 (fun v m117 hv => ?_)
        obtain ⟨rfl, rfl⟩ := hv
        rw [hD, k4]
        refine jj_iconst h d_M_putHead_120 ?_
        refine jj_icmp_ne h 144 d_M_putHead_121 (by decide) ⟨by omega, by omega⟩ ⟨by omega, by omega⟩ (fun q121 => ?_) (fun q121 => ?_)
        · refine jj_aload_n h d_M_putHead_144 rfl ⟨_, rfl⟩ ?_
          refine jj_aload_n h d_M_putHead_145 rfl ⟨_, rfl⟩ ?_
          refine jj_iload_n h d_M_putHead_146 rfl ?_
          refine jj_bipush h d_M_putHead_147 (by decide) ?_
          refine jj_callV h (cM_of (by omega) (by omega)) cv_M_59 (ro_of he (by decide) (by decide)) rfl rfl (by decide) rfl rfl rfl (Nat.le_of_ble_eq_true rfl) d_M_putHead_149 (fun v m149 hv => ?_)
          obtain ⟨rfl, rfl⟩ := hv
          rw [hD]
          refine jj_aload_n h d_M_putHead_152 rfl ⟨_, rfl⟩ ?_
          refine jj_iload_n h d_M_putHead_153 rfl ?_
          refine jj_iconst h d_M_putHead_154 ?_
          refine jj_callV h (cM_of (by omega) (by omega)) cv_M_59 (ro_of he (by decide) (by decide)) rfl rfl (by decide) rfl rfl rfl (Nat.le_of_ble_eq_true rfl) d_M_putHead_155 (fun v m155 hv => ?_)
          obtain ⟨rfl, rfl⟩ := hv
          rw [hD, k5]
          refine jj_callV h (cM_putText (by omega) (by omega) (by omega) (by omega) (by omega)) cv_M_257 (ro_of he (by decide) (by decide)) rfl rfl (by decide) rfl rfl rfl (Nat.le_of_ble_eq_true rfl) d_M_putHead_158 (fun v m158 hv => ?_)
          obtain ⟨rfl, rfl⟩ := hv
          rw [hX, c4]
          refine jj_vret h he d_M_putHead_161 ?_
          rw [if_pos q80, if_neg q91, if_neg q121]
          exact ⟨rfl, hm.put _, by rw [pL_out]; omega⟩
        · refine jj_aload_n h d_M_putHead_124 rfl ⟨_, rfl⟩ ?_
          refine jj_aload_n h d_M_putHead_125 rfl ⟨_, rfl⟩ ?_
          refine jj_iload_n h d_M_putHead_126 rfl ?_
          refine jj_bipush h d_M_putHead_127 (by decide) ?_
          refine jj_callV h (cM_of (by omega) (by omega)) cv_M_59 (ro_of he (by decide) (by decide)) rfl rfl (by decide) rfl rfl rfl (Nat.le_of_ble_eq_true rfl) d_M_putHead_129 (fun v m129 hv => ?_)
          obtain ⟨rfl, rfl⟩ := hv
          rw [hD]
          refine jj_aload_n h d_M_putHead_132 rfl ⟨_, rfl⟩ ?_
          refine jj_iload_n h d_M_putHead_133 rfl ?_
          refine jj_iconst h d_M_putHead_134 ?_
          refine jj_callV h (cM_of (by omega) (by omega)) cv_M_59 (ro_of he (by decide) (by decide)) rfl rfl (by decide) rfl rfl rfl (Nat.le_of_ble_eq_true rfl) d_M_putHead_135 (fun v m135 hv => ?_)
          obtain ⟨rfl, rfl⟩ := hv
          rw [hD, k5]
          refine jj_callV h (cM_putQuoted (by omega) (by omega) (by omega) (by omega) (by omega) hby) cv_M_263 (ro_of he (by decide) (by decide)) rfl rfl (by decide) rfl rfl rfl (Nat.le_of_ble_eq_true rfl) d_M_putHead_138 (fun v m138 hv => ?_)
          obtain ⟨rfl, hv, hvo⟩ := hv
          rw [hX, c4] at hv
          refine jj_goto h 161 d_M_putHead_141 (by decide) ?_
          refine jj_vret h he d_M_putHead_161 ?_
          rw [if_pos q80, if_neg q91, if_pos (by omega)]
          exact ⟨rfl, hm.app hv, by omega⟩
      · refine jj_aload_n h d_M_putHead_94 rfl ⟨_, rfl⟩ ?_
        refine jj_aload_n h d_M_putHead_95 rfl ⟨_, rfl⟩ ?_
        refine jj_iload_n h d_M_putHead_96 rfl ?_
        refine jj_bipush h d_M_putHead_97 (by decide) ?_
        refine jj_callV h (cM_of (by omega) (by omega)) cv_M_59 (ro_of he (by decide) (by decide)) rfl rfl (by decide) rfl rfl rfl (Nat.le_of_ble_eq_true rfl) d_M_putHead_99 (fun v m99 hv => ?_)
        obtain ⟨rfl, rfl⟩ := hv
        rw [hD]
        refine jj_aload_n h d_M_putHead_102 rfl ⟨_, rfl⟩ ?_
        refine jj_iload_n h d_M_putHead_103 rfl ?_
        refine jj_iconst h d_M_putHead_104 ?_
        refine jj_callV h (cM_of (by omega) (by omega)) cv_M_59 (ro_of he (by decide) (by decide)) rfl rfl (by decide) rfl rfl rfl (Nat.le_of_ble_eq_true rfl) d_M_putHead_105 (fun v m105 hv => ?_)
        obtain ⟨rfl, rfl⟩ := hv
        rw [hD, k5]
        refine jj_callV h (cM_putLetters (by omega) (by omega) (by omega) (by omega) (by omega) hby) cv_M_260 (ro_of he (by decide) (by decide)) rfl rfl (by decide) rfl rfl rfl (Nat.le_of_ble_eq_true rfl) d_M_putHead_108 (fun v m108 hv => ?_)
        obtain ⟨rfl, hv⟩ := hv
        rw [hX, c4] at hv
        have hvo := hv.out
        have hvl := b6_len (gE L e).2.2.1 0
        refine jj_goto h 161 d_M_putHead_111 (by decide) ?_
        refine jj_vret h he d_M_putHead_161 ?_
        rw [if_pos q80, if_pos (by omega)]
        exact ⟨rfl, hm.app hv, by omega⟩
    · refine jj_vret h he d_M_putHead_83 ?_
      rw [if_neg q80, List.append_nil]
      exact ⟨rfl, hm, by omega⟩
  have loop : ∀ (j f : Nat) (A : List Int) (m : mt_M), (gE L e).2.1.length - f = j → f ≤ (gE L e).2.1.length → A.length ≤ 2804 * f → wc_ mem A m → A ++ hF_ ((gE L e).2.1.drop f) = hF_ (gE L e).2.1 → JJ G X 0 0 m 2 [some (vr G 182), some (vi e), some (vi (f : Int))] [] := by
    intro j
    induction j with
    | zero =>
      intro f A m hj hf hA hm hT
      have hfe : f = (gE L e).2.1.length := by omega
      rw [List.drop_of_length_le (by omega)] at hT
      have hT3 : A ++ [] = hF_ (gE L e).2.1 := hT
      rw [List.append_nil] at hT3
      have ho := hm.out
      have hD := hm.row (r := 185) (by decide) (by decide)
      refine jj_iload_n h d_M_putHead_2 rfl ?_
      refine jj_aload_n h d_M_putHead_3 rfl ⟨_, rfl⟩ ?_
      refine jj_iload_n h d_M_putHead_4 rfl ?_
      refine jj_iconst h d_M_putHead_5 ?_
      refine jj_callV h (cM_of (by omega) (by omega)) cv_M_59 (ro_of he (by decide) (by decide)) rfl rfl (by decide) rfl rfl rfl (Nat.le_of_ble_eq_true rfl) d_M_putHead_6 (fun v m6 hv => ?_)
      obtain ⟨rfl, rfl⟩ := hv
      rw [hD, h3]
      refine jj_icmp_ge h 70 d_M_putHead_9 (by decide) ⟨by omega, by omega⟩ ⟨by omega, by omega⟩ (fun _ => ?_) (fun q9 => absurd (by omega) q9)
      refine jj_aload_n h d_M_putHead_70 rfl ⟨_, rfl⟩ ?_
      refine jj_callV h (cM_putLine (by omega) (by omega)) cv_M_247 (ro_of he (by decide) (by decide)) rfl rfl (by decide) rfl rfl rfl (Nat.le_of_ble_eq_true rfl) d_M_putHead_71 (fun v m71 hv => ?_)
      obtain ⟨rfl, rfl⟩ := hv
      exact rest _ _ (by rw [← hT3]; exact hm.line) (by rw [st_ne (by decide), pL_out]; show m 182 17 + ((2 : Nat) : Int) ≤ _; omega)
    | succ j ih =>
      intro f A m hj hf hA hm hT
      have ho := hm.out
      have hD := hm.row (r := 185) (by decide) (by decide)
      have hFr := hm.row (r := 186) (by decide) (by decide)
      have hX := hm.row (r := 187) (by decide) (by decide)
      have hof : okF L e f := ⟨⟨e0, e1⟩, by omega, by omega⟩
      have n0 := h9.nv (w := 0) hof (Or.inl rfl)
      have n1 := h9.nv (w := 1) hof (Or.inr rfl)
      rw [hF_drop (by omega)] at hT
      obtain ⟨f8, x1, x2, x3, x4⟩ := n0
      obtain ⟨-, y1, y2, y3, y4⟩ := n1
      have s0 : nv_ (gF L e f) 0 = (gF L e f).1 := rfl
      have s1 : nv_ (gF L e f) 1 = (gF L e f).2 := rfl
      rw [s0] at x2 x3 x4
      rw [s1] at y2 y3 y4
      generalize (gF L e f).1 = N at *
      generalize (gF L e f).2 = V at *
      simp only [Int.mul_zero, Int.mul_one, Int.add_zero, Int.reduceAdd] at x1 x2 x3 x4 y1 y2 y3 y4
      generalize hP0 : mem 186 (4 * (8 * e + f)) = P0 at *
      generalize hP1 : mem 186 (4 * (8 * e + f) + 2) = P1 at *
      have hPf : ∀ (m : mt_M) (B : List Int), pL m B 186 = m 186 := fun m B => pL_row (by decide) (by decide) B m
      have hPt : ∀ (m : mt_M) (B : List Int), pL m B 187 = m 187 := fun m B => pL_row (by decide) (by decide) B m
      refine jj_iload_n h d_M_putHead_2 rfl ?_
      refine jj_aload_n h d_M_putHead_3 rfl ⟨_, rfl⟩ ?_
      refine jj_iload_n h d_M_putHead_4 rfl ?_
      refine jj_iconst h d_M_putHead_5 ?_
      refine jj_callV h (cM_of (by omega) (by omega)) cv_M_59 (ro_of he (by decide) (by decide)) rfl rfl (by decide) rfl rfl rfl (Nat.le_of_ble_eq_true rfl) d_M_putHead_6 (fun v m6 hv => ?_)
      obtain ⟨rfl, rfl⟩ := hv
      rw [hD, h3]
      refine jj_icmp_ge h 70 d_M_putHead_9 (by decide) ⟨by omega, by omega⟩ ⟨by omega, by omega⟩ (fun q9 => absurd q9 (by omega)) (fun _ => ?_)
      refine jj_aload_n h d_M_putHead_12 rfl ⟨_, rfl⟩ ?_
      refine jj_aload_n h d_M_putHead_13 rfl ⟨_, rfl⟩ ?_
      refine jj_iload_n h d_M_putHead_14 rfl ?_
      refine jj_iload_n h d_M_putHead_15 rfl ?_
      refine jj_iconst h d_M_putHead_16 ?_
      refine jj_callV h (cM_fieldOf (by omega) (by omega)) cv_M_115 (ro_of he (by decide) (by decide)) rfl rfl (by decide) rfl rfl rfl (Nat.le_of_ble_eq_true rfl) d_M_putHead_17 (fun v m17 hv => ?_)
      obtain ⟨rfl, rfl⟩ := hv
      rw [hFr, Int.add_zero, hP0]
      refine jj_aload_n h d_M_putHead_20 rfl ⟨_, rfl⟩ ?_
      refine jj_iload_n h d_M_putHead_21 rfl ?_
      refine jj_iload_n h d_M_putHead_22 rfl ?_
      refine jj_iconst h d_M_putHead_23 ?_
      refine jj_callV h (cM_fieldOf (by omega) (by omega)) cv_M_115 (ro_of he (by decide) (by decide)) rfl rfl (by decide) rfl rfl rfl (Nat.le_of_ble_eq_true rfl) d_M_putHead_24 (fun v m24 hv => ?_)
      obtain ⟨rfl, rfl⟩ := hv
      rw [hFr, x2]
      refine jj_callV h (cM_putText (by omega) (by omega) (by omega) (by omega) (by omega)) cv_M_257 (ro_of he (by decide) (by decide)) rfl rfl (by decide) rfl rfl rfl (Nat.le_of_ble_eq_true rfl) d_M_putHead_27 (fun v m27 hv => ?_)
      obtain ⟨rfl, rfl⟩ := hv
      rw [hX, x4]
      refine jj_aload_n h d_M_putHead_30 rfl ⟨_, rfl⟩ ?_
      refine jj_bipush h d_M_putHead_31 (by decide) ?_
      refine jj_callV h (cM_put (by simp only [pL_out]; omega) (by simp only [pL_out]; omega)) cv_M_238 (ro_of he (by decide) (by decide)) rfl rfl (by decide) rfl rfl rfl (Nat.le_of_ble_eq_true rfl) d_M_putHead_33 (fun v m33 hv => ?_)
      obtain ⟨rfl, rfl⟩ := hv
      refine jj_aload_n h d_M_putHead_36 rfl ⟨_, rfl⟩ ?_
      refine jj_bipush h d_M_putHead_37 (by decide) ?_
      refine jj_callV h (cM_put (by simp only [pL_out, List.length_cons, List.length_nil]; omega) (by simp only [pL_out, List.length_cons, List.length_nil]; omega)) cv_M_238 (ro_of he (by decide) (by decide)) rfl rfl (by decide) rfl rfl rfl (Nat.le_of_ble_eq_true rfl) d_M_putHead_39 (fun v m39 hv => ?_)
      obtain ⟨rfl, rfl⟩ := hv
      refine jj_aload_n h d_M_putHead_42 rfl ⟨_, rfl⟩ ?_
      refine jj_aload_n h d_M_putHead_43 rfl ⟨_, rfl⟩ ?_
      refine jj_iload_n h d_M_putHead_44 rfl ?_
      refine jj_iload_n h d_M_putHead_45 rfl ?_
      refine jj_iconst h d_M_putHead_46 ?_
      refine jj_callV h (cM_fieldOf (by omega) (by omega)) cv_M_115 (ro_of he (by decide) (by decide)) rfl rfl (by decide) rfl rfl rfl (Nat.le_of_ble_eq_true rfl) d_M_putHead_47 (fun v m47 hv => ?_)
      obtain ⟨rfl, rfl⟩ := hv
      rw [hPf, hPf, hPf, hFr, hP1]
      refine jj_aload_n h d_M_putHead_50 rfl ⟨_, rfl⟩ ?_
      refine jj_iload_n h d_M_putHead_51 rfl ?_
      refine jj_iload_n h d_M_putHead_52 rfl ?_
      refine jj_iconst h d_M_putHead_53 ?_
      refine jj_callV h (cM_fieldOf (by omega) (by omega)) cv_M_115 (ro_of he (by decide) (by decide)) rfl rfl (by decide) rfl rfl rfl (Nat.le_of_ble_eq_true rfl) d_M_putHead_54 (fun v m54 hv => ?_)
      obtain ⟨rfl, rfl⟩ := hv
      rw [hPf, hPf, hPf, hFr, y2]
      refine jj_callV h (cM_putText (by simp only [pL_out, List.length_cons, List.length_nil]; omega) (by simp only [pL_out, List.length_cons, List.length_nil]; omega) (by omega) (by omega) (by omega)) cv_M_257 (ro_of he (by decide) (by decide)) rfl rfl (by decide) rfl rfl rfl (Nat.le_of_ble_eq_true rfl) d_M_putHead_57 (fun v m57 hv => ?_)
      obtain ⟨rfl, rfl⟩ := hv
      rw [hPt, hPt, hPt, hX, y4]
      refine jj_aload_n h d_M_putHead_60 rfl ⟨_, rfl⟩ ?_
      refine jj_callV h (cM_putLine (by simp only [pL_out, List.length_cons, List.length_nil]; omega) (by simp only [pL_out, List.length_cons, List.length_nil]; omega)) cv_M_247 (ro_of he (by decide) (by decide)) rfl rfl (by decide) rfl rfl rfl (Nat.le_of_ble_eq_true rfl) d_M_putHead_61 (fun v m61 hv => ?_)
      obtain ⟨rfl, rfl⟩ := hv
      refine jj_iinc h d_M_putHead_64 rfl rfl ?_
      refine jj_goto h 2 d_M_putHead_67 (by decide) ?_
      refine ih (f + 1) (A ++ N ++ [58] ++ [32] ++ V ++ [13, 10]) _ (by omega) (by omega) (by simp only [List.length_append, List.length_cons, List.length_nil]; omega) ((((hm.put N).put [58]).put [32]).put V).line ?_
      rw [← hT]; simp only [List.append_assoc]
  refine jj_iconst h d_M_putHead_0 ?_
  refine jj_istore_n h d_M_putHead_1 (Nat.le_of_ble_eq_true rfl) rfl ?_
  exact loop _ 0 [] mem rfl (by omega) (by decide) (wc_.nil _) rfl
