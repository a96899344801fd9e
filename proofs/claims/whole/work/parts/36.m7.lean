/-! The reference: fields of an entity, its encoding. -/
/-- the text is bytes, and there is room -/
def tb_ (mem : mt_M) : Prop := 0 ≤ mem 182 9 ∧ mem 182 9 ≤ 1400 ∧ by_ (mem 187) 0 (mem 182 9)
/-- entity e has nf fields, each in the text -/
def fw_ (mem : mt_M) (e : Int) (nf : Int) : Prop := 0 ≤ e ∧ e < 16 ∧ 0 ≤ nf ∧ nf ≤ 8 ∧ mem 185 (16 * e + 3) = nf ∧ ∀ f : Int, 0 ≤ f → f < nf → 0 ≤ mem 186 (4 * (8 * e + f)) ∧ 0 ≤ mem 186 (4 * (8 * e + f) + 1) ∧ mem 186 (4 * (8 * e + f)) + mem 186 (4 * (8 * e + f) + 1) ≤ mem 182 9 ∧ 0 ≤ mem 186 (4 * (8 * e + f) + 2) ∧ 0 ≤ mem 186 (4 * (8 * e + f) + 3) ∧ mem 186 (4 * (8 * e + f) + 2) + mem 186 (4 * (8 * e + f) + 3) ≤ mem 182 9
def fN_ (mem : mt_M) (e f : Int) : List Int := slc (mem 187) (mem 186 (4 * (8 * e + f))) (mem 186 (4 * (8 * e + f)) + mem 186 (4 * (8 * e + f) + 1))
def fV_ (mem : mt_M) (e f : Int) : List Int := slc (mem 187) (mem 186 (4 * (8 * e + f) + 2)) (mem 186 (4 * (8 * e + f) + 2) + mem 186 (4 * (8 * e + f) + 3))
theorem cM_firstField {G : mt_G} {l : Launch} {mem : mt_M} {a b c e nf : Int} {w : List Int} (hw : wl_ a b c 27 = w ∧ ∀ k : Nat, k < 27 → 0 ≤ ltr a b c k ∧ ltr a b c k ≤ 127) (ht : tb_ mem) (hf : fw_ mem e nf) : CT G l y_M_firstField c_M_firstField 9 (some .int) 4 [vr G 182, vi e, vl a, vl b, vl c] mem (fun v m' => mem = m' ∧ ∃ r : Int, v = some (vi r) ∧ ((r = -1 ∧ ∀ f : Int, 0 ≤ f → f < nf → ¬ wd_ w (fN_ mem e f) = true) ∨ (0 ≤ r ∧ r < nf ∧ wd_ w (fN_ mem e r) = true ∧ ∀ f : Int, 0 ≤ f → f < r → ¬ wd_ w (fN_ mem e f) = true))) := by
  obtain ⟨f0, f1, f2, f3, f4, f5⟩ := hf
  refine CT.intro (by decide) rfl (Nat.le_of_ble_eq_true rfl) (fun X h he => ?_)
  have loop : ∀ (n : Nat) (q : Int), (nf - q).toNat = n → 0 ≤ q → q ≤ nf → (∀ f : Int, 0 ≤ f → f < q → ¬ wd_ w (fN_ mem e f) = true) → JJ G X 0 0 mem 3 [some (vr G 182), some (vi e), some (vl a), none, some (vl b), none, some (vl c), none, some (vi q)] [] := by
    intro n
    induction n with
    | zero =>
      intro q hn hq hq1 hn2
      refine jj_iload h d_M_firstField_3 rfl ?_
      refine jj_aload_n h d_M_firstField_5 rfl ⟨_, rfl⟩ ?_
      refine jj_iload_n h d_M_firstField_6 rfl ?_
      refine jj_iconst h d_M_firstField_7 ?_
      refine jj_callV h (cM_of (by omega) (by omega)) cv_M_59 (ro_of he (by decide) (by decide)) rfl rfl (by decide) rfl rfl rfl (Nat.le_of_ble_eq_true rfl) d_M_firstField_8 (fun v m1 hv => ?_)
      obtain ⟨rfl, rfl⟩ := hv
      rw [f4]
      refine jj_icmp_ge h 51 d_M_firstField_11 (by decide) ⟨by omega, by omega⟩ ⟨by omega, by omega⟩ (fun _ => ?_) (fun q11 => absurd (by omega) q11)
      refine jj_iconst h d_M_firstField_51 ?_
      refine jj_iret h he d_M_firstField_52 ?_
      exact ⟨rfl, -1, rfl, Or.inl ⟨rfl, fun f g1 g2 => hn2 f g1 (by omega)⟩⟩
    | succ n ih =>
      intro q hn hq hq1 hn2
      have g := f5 q hq (by omega)
      have hbt := ht.2.2
      have ht1 := ht.2.1
      refine jj_iload h d_M_firstField_3 rfl ?_
      refine jj_aload_n h d_M_firstField_5 rfl ⟨_, rfl⟩ ?_
      refine jj_iload_n h d_M_firstField_6 rfl ?_
      refine jj_iconst h d_M_firstField_7 ?_
      refine jj_callV h (cM_of (by omega) (by omega)) cv_M_59 (ro_of he (by decide) (by decide)) rfl rfl (by decide) rfl rfl rfl (Nat.le_of_ble_eq_true rfl) d_M_firstField_8 (fun v m1 hv => ?_)
      obtain ⟨rfl, rfl⟩ := hv
      rw [f4]
      refine jj_icmp_ge h 51 d_M_firstField_11 (by decide) ⟨by omega, by omega⟩ ⟨by omega, by omega⟩ (fun q11 => absurd q11 (by omega)) (fun _ => ?_)
      refine jj_aload_n h d_M_firstField_14 rfl ⟨_, rfl⟩ ?_
      refine jj_aload_n h d_M_firstField_15 rfl ⟨_, rfl⟩ ?_
      refine jj_iload_n h d_M_firstField_16 rfl ?_
      refine jj_iload h d_M_firstField_17 rfl ?_
      refine jj_iconst h d_M_firstField_19 ?_
      refine jj_callV h (cM_fieldOf (by omega) (by omega)) cv_M_115 (ro_of he (by decide) (by decide)) rfl rfl (by decide) rfl rfl rfl (Nat.le_of_ble_eq_true rfl) d_M_firstField_20 (fun v m1 hv => ?_)
      obtain ⟨rfl, rfl⟩ := hv
      refine jj_aload_n h d_M_firstField_23 rfl ⟨_, rfl⟩ ?_
      refine jj_iload_n h d_M_firstField_24 rfl ?_
      refine jj_iload h d_M_firstField_25 rfl ?_
      refine jj_iconst h d_M_firstField_27 ?_
      refine jj_callV h (cM_fieldOf (by omega) (by omega)) cv_M_115 (ro_of he (by decide) (by decide)) rfl rfl (by decide) rfl rfl rfl (Nat.le_of_ble_eq_true rfl) d_M_firstField_28 (fun v m1 hv => ?_)
      obtain ⟨rfl, rfl⟩ := hv
      rw [show 4 * (8 * e + q) + 0 = 4 * (8 * e + q) from Int.add_zero _]
      refine jj_lload_n h d_M_firstField_31 rfl ?_
      refine jj_lload h d_M_firstField_32 rfl ?_
      refine jj_lload h d_M_firstField_34 rfl ?_
      refine jj_callV h (cM_isWord hw.1 hw.2 (by omega) (by omega) (by omega) (hbt.sub (by omega) (by omega))) cv_M_119 (ro_of he (by decide) (by decide)) rfl rfl (by decide) rfl rfl rfl (Nat.le_of_ble_eq_true rfl) d_M_firstField_36 (fun v m1 hv => ?_)
      obtain ⟨rfl, rfl⟩ := hv
      refine jj_if_eq h 45 d_M_firstField_39 (by decide) ⟨by split <;> omega, by split <;> omega⟩ (fun q39 => ?_) (fun q39 => ?_)
      · have q39 : ¬ wd_ w (fN_ mem e q) = true := fun z => by unfold fN_ at z; rw [if_pos z] at q39; omega
        refine jj_iinc h d_M_firstField_45 rfl rfl ?_
        refine jj_goto h 3 d_M_firstField_48 (by decide) ?_
        refine ih (q + 1) (by omega) (by omega) (by omega) (fun f g1 g2 => ?_)
        by_cases hfq : f = q
        · subst hfq; exact q39
        · exact hn2 f g1 (by omega)
      · have q39 : wd_ w (fN_ mem e q) = true := Decidable.byContradiction fun z => q39 (by unfold fN_ at z; rw [if_neg z])
        refine jj_iload h d_M_firstField_42 rfl ?_
        refine jj_iret h he d_M_firstField_44 ?_
        exact ⟨rfl, q, rfl, Or.inr ⟨hq, by omega, q39, hn2⟩⟩
  refine jj_iconst h d_M_firstField_0 ?_
  refine jj_istore h d_M_firstField_1 (Nat.le_of_ble_eq_true rfl) rfl ?_
  exact loop _ 0 rfl (by omega) (by omega) (fun f g1 g2 => by omega)
theorem cM_enter {G : mt_G} {l : Launch} {mem : mt_M} {e f nf : Int} (hf : fw_ mem e nf) (h0 : 0 ≤ f) (h1 : f < nf) : CT G l y_M_enter c_M_enter 3 none 2 [vr G 182, vi e, vi f] mem (fun v m' => v = none ∧ st_ (st_ mem 182 13 (mem 186 (4 * (8 * e + f) + 2))) 182 14 (mem 186 (4 * (8 * e + f) + 2) + mem 186 (4 * (8 * e + f) + 3)) = m') := by
  obtain ⟨f0, f1, f2, f3, f4, f5⟩ := hf
  refine CT.intro (by decide) rfl (Nat.le_of_ble_eq_true rfl) (fun X h he => ?_)
  refine jj_aload_n h d_M_enter_0 rfl ⟨_, rfl⟩ ?_
  refine jj_aload_n h d_M_enter_1 rfl ⟨_, rfl⟩ ?_
  refine jj_iload_n h d_M_enter_2 rfl ?_
  refine jj_iload_n h d_M_enter_3 rfl ?_
  refine jj_iconst h d_M_enter_4 ?_
  refine jj_callV h (cM_fieldOf (by omega) (by omega)) cv_M_115 (ro_of he (by decide) (by decide)) rfl rfl (by decide) rfl rfl rfl (Nat.le_of_ble_eq_true rfl) d_M_enter_5 (fun v m1 hv => ?_)
  obtain ⟨rfl, rfl⟩ := hv
  refine jj_p_M_at h  fl_M_93 d_M_enter_8 ?_
  refine jj_aload_n h d_M_enter_11 rfl ⟨_, rfl⟩ ?_
  refine jj_aload_n h d_M_enter_12 rfl ⟨_, rfl⟩ ?_
  refine jj_g_M_at h  fl_M_93 d_M_enter_13 ?_
  try simp only [st_at, Nat.reduceEqDiff, Int.reduceEq, and_self, true_and, and_true, false_and, and_false, reduceIte]
  refine jj_aload_n h d_M_enter_16 rfl ⟨_, rfl⟩ ?_
  refine jj_iload_n h d_M_enter_17 rfl ?_
  refine jj_iload_n h d_M_enter_18 rfl ?_
  refine jj_iconst h d_M_enter_19 ?_
  refine jj_callV h (cM_fieldOf (by omega) (by omega)) cv_M_115 (ro_of he (by decide) (by decide)) rfl rfl (by decide) rfl rfl rfl (Nat.le_of_ble_eq_true rfl) d_M_enter_20 (fun v m1 hv => ?_)
  obtain ⟨rfl, rfl⟩ := hv
  try simp only [st_at, Nat.reduceEqDiff, Int.reduceEq, and_self, true_and, and_true, false_and, and_false, reduceIte]
  refine jj_iadd h d_M_enter_23 ?_
  refine jj_p_M_stop h  fl_M_96 d_M_enter_24 ?_
  refine jj_vret h he d_M_enter_27 ?_
  exact ⟨rfl, rfl⟩
/-- scanning a value: as fr_, and 'stop' too -/
def fs_ (mem m : mt_M) : Prop := mem 182 9 ≤ m 182 9 ∧ ∀ (r : Nat) (z : Int), (r ≠ 187 ∨ z < mem 182 9) → (r ≠ 182 ∨ (z ≠ 13 ∧ z ≠ 14 ∧ z ≠ 15 ∧ z ≠ 16 ∧ z ≠ 9)) → m r z = mem r z
theorem fs_.rf {mem : mt_M} : fs_ mem mem := ⟨Int.le_refl _, fun _ _ _ _ => rfl⟩
theorem fs_.fr {a b c : mt_M} (h1 : fs_ a b) (h2 : fr_ b c) : fs_ a c := ⟨Int.le_trans h1.1 h2.1, fun r z p q => by
  rw [h2.2 r z (by have := h1.1; rcases p with p | p; exact Or.inl p; exact Or.inr (by omega)) (by rcases q with q | q; exact Or.inl q; exact Or.inr ⟨q.1, q.2.2⟩)]; exact h1.2 r z p q⟩
theorem fs_.enter {mem : mt_M} {a s : Int} : fs_ mem (st_ (st_ mem 182 13 a) 182 14 s) := ⟨by rw [st_ne (by decide), st_ne (by decide)]; exact Int.le_refl _, fun r z _ q => by
  rw [st_ne (by rcases q with q | q; exact Or.inl q; exact Or.inr q.2.1), st_ne (by rcases q with q | q; exact Or.inl q; exact Or.inr q.1)]⟩
theorem fs_.slc {a b : mt_M} (h : fs_ a b) {p e : Int} (hz : e ≤ a 182 9) : slc (b 187) p e = slc (a 187) p e := slc_ext (fun i _ h2 => h.2 _ _ (Or.inr (by omega)) (Or.inl (by decide)))
/-- the first value of that name -/
def fld_ (mem : mt_M) (e nf : Int) (w : List Int) (o : Option (List Int)) : Prop := match o with
  | none => ∀ f : Int, 0 ≤ f → f < nf → ¬ wd_ w (fN_ mem e f) = true
  | some v => ∃ r : Int, 0 ≤ r ∧ r < nf ∧ wd_ w (fN_ mem e r) = true ∧ (∀ f : Int, 0 ≤ f → f < r → ¬ wd_ w (fN_ mem e f) = true) ∧ fV_ mem e r = v
