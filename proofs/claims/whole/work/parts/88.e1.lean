/-! The class: fields of an entity. -/
/-- field f of entity N is q -/
def cF (m : mt_M) (N f : Nat) (q : List Int × List Int) : Prop := (0 ≤ m (54 + 8 * N + f) 0 ∧ m (54 + 8 * N + f) 1 = q.1.length ∧ m (54 + 8 * N + f) 0 + q.1.length ≤ m 3 1 ∧ slc (m 11) (m (54 + 8 * N + f) 0) (m (54 + 8 * N + f) 0 + q.1.length) = q.1) ∧ (0 ≤ m (54 + 8 * N + f) 2 ∧ m (54 + 8 * N + f) 3 = q.2.length ∧ m (54 + 8 * N + f) 2 + q.2.length ≤ m 4 1 ∧ slc (m 12) (m (54 + 8 * N + f) 2) (m (54 + 8 * N + f) 2 + q.2.length) = q.2)
def cG (m : mt_M) (N : Nat) (F : List (List Int × List Int)) : Prop := m (22 + N) 12 = F.length ∧ F.length ≤ 8 ∧ ∀ (f : Nat) (q : List Int × List Int), F[f]? = some q → cF m N f q
/-- .. while they are read: the last value may go on -/
def oG (m : mt_M) (N : Nat) (F : List (List Int × List Int)) : Prop := cG m N F ∧ (F ≠ [] → m (54 + 8 * N + (F.length - 1)) 2 + m (54 + 8 * N + (F.length - 1)) 3 = m 4 1)
/-- what reading the fields of entity N may change -/
def fG (N : Nat) (m m' : mt_M) : Prop := (∀ r : Nat, r ≠ 4 → r ≠ 12 → r ≠ 22 + N → (r < 54 + 8 * N ∨ 62 + 8 * N ≤ r) → m' r = m r) ∧ (∀ z : Int, z ≠ 12 → m' (22 + N) z = m (22 + N) z) ∧ up_ m m' 4
theorem fG.rf {N : Nat} {m : mt_M} : fG N m m := ⟨fun _ _ _ _ _ => rfl, fun _ _ => rfl, up_.rf⟩
theorem fG.trans {N : Nat} {a b c : mt_M} (h1 : fG N a b) (h2 : fG N b c) : fG N a c := ⟨fun r x y z w => by rw [h2.1 r x y z w, h1.1 r x y z w], fun z hz => by rw [h2.2.1 z hz, h1.2.1 z hz], h1.2.2.trans h2.2.2⟩
theorem cF.mov {m m' : mt_M} {N f : Nat} {q : List Int × List Int} (h : cF m N f q) (hr : m' (54 + 8 * N + f) = m (54 + 8 * N + f)) (h3 : m' 3 1 = m 3 1) (h11 : m' 11 = m 11) (hu : up_ m m' 4) : cF m' N f q := by
  obtain ⟨⟨a1, a2, a3, a4⟩, b1, b2, b3, b4⟩ := h
  unfold cF
  rw [hr, h3, h11]
  refine ⟨⟨a1, a2, a3, a4⟩, b1, b2, by have := hu.1; omega, ?_⟩
  have e1 : slc (m' (4 + 8)) (m (54 + 8 * N + f) 2) (m (54 + 8 * N + f) 2 + q.2.length) = slc (m (4 + 8)) (m (54 + 8 * N + f) 2) (m (54 + 8 * N + f) 2 + q.2.length) := hu.slc b3
  exact e1.trans b4
theorem get_snoc {α : Type} {A : List α} {x p : α} {f : Nat} (h : (A ++ [x])[f]? = some p) : (f < A.length ∧ A[f]? = some p) ∨ (f = A.length ∧ p = x) := by
  by_cases hf : f < A.length
  · rw [List.getElem?_append_left hf] at h; exact Or.inl ⟨hf, h⟩
  · have hi := (List.getElem?_eq_some_iff.mp h).1
    rw [List.length_append] at hi
    have hf2 : f = A.length := by have : f < A.length + 1 := hi; omega
    subst hf2
    rw [List.getElem?_append_right (Nat.le_refl _), Nat.sub_self] at h
    exact Or.inr ⟨rfl, (Option.some.inj h).symm⟩
theorem apl_snoc (q : List Int × List Int) (v : List Int) : ∀ A : List (List Int × List Int), apl (A ++ [q]) v = A ++ [(q.1, q.2 ++ v)]
  | [] => rfl
  | [a] => rfl
  | a :: b :: t => by
    show a :: apl ((b :: t) ++ [q]) v = a :: ((b :: t) ++ [(q.1, q.2 ++ v)])
    rw [apl_snoc q v (b :: t)]
theorem ex_snoc {α : Type} : ∀ {L : List α}, L ≠ [] → ∃ A x, L = A ++ [x]
  | [], h => absurd rfl h
  | [a], _ => ⟨[], a, rfl⟩
  | a :: b :: t, _ => by
    obtain ⟨A, x, h⟩ := ex_snoc (L := b :: t) (by simp)
    exact ⟨a :: A, x, by rw [h]; rfl⟩
theorem cT_goOn {G : mt_G} {l : Launch} {mem : mt_M} {N : Nat} {F : List (List Int × List Int)} {b e : Int} (hN : N < 16) (hF : oG mem N F) (hw : bw_ mem 3) (h4 : bw_ mem 4) (b0 : 0 ≤ b) (b1 : b ≤ e) (e1 : e ≤ mem 3 1) (hf : mem 4 1 + (e - b) ≤ 320) : CT G l y_T_goOnWithField c_T_goOnWithField 5 (some .boolean) 3 [vr G 17, vr G (22 + N), vi b, vi e] mem (fun v m' => (F = [] → v = some (vi 0) ∧ mem = m') ∧ (F ≠ [] → v = some (vi 1) ∧ oG m' N (apl F (slc (mem 11) b e)) ∧ fG N mem m' ∧ bw_ m' 4 ∧ m' 4 1 = mem 4 1 + (e - b))) := by
  have hsz := hw.2.2.1
  have hl9 : ln_ (3 + 8) = 320 := rfl
  have hl4 : ln_ (4 + 8) = 320 := rfl
  have h40 := h4.2.1
  refine CT.intro (by decide) rfl (Nat.le_of_ble_eq_true rfl) (fun X h he => ?_)
  obtain ⟨⟨c1, c2, c3⟩, c4⟩ := hF
  by_cases hE : F = []
  · subst hE
    refine jj_aload_n h d_T_goOnWithField_0 rfl ⟨_, rfl⟩ ?_
    refine jj_g_E_fieldCount h (by omega) fl_T_144 d_T_goOnWithField_1 ?_
    try simp only [c1]
    refine jj_iconst h d_T_goOnWithField_4 ?_
    refine jj_isub h d_T_goOnWithField_5 ?_
    refine jj_istore h d_T_goOnWithField_6 (Nat.le_of_ble_eq_true rfl) rfl ?_
    refine jj_iload h d_T_goOnWithField_8 rfl ?_
    refine jj_if_lt h 20 d_T_goOnWithField_10 (by decide) ⟨by decide, by decide⟩ (fun _ => ?_) (fun q10 => absurd ((by decide)) q10)
    refine jj_iconst h d_T_goOnWithField_20 ?_
    refine jj_zret h he (by omega) d_T_goOnWithField_21 ?_
    exact ⟨fun _ => ⟨rfl, rfl⟩, fun z => absurd rfl z⟩
  obtain ⟨A, q, rfl⟩ := ex_snoc hE
  have hAl : (A ++ [q]).length = A.length + 1 := by rw [List.length_append]; rfl
  rw [hAl] at c1 c2 c4
  have c4 := c4 hE
  rw [show A.length + 1 - 1 = A.length by omega] at c4
  have hS : ((slc (mem 11) b e).length : Int) = e - b := slc_lenI b1
  have hSb : ∀ c ∈ slc (mem 11) b e, 0 ≤ c ∧ c ≤ 255 := slc_by (fun i i0 i1 => hw.2.2.2 i (by omega) (by omega))
  generalize hSl : slc (mem 11) b e = S at *
  obtain ⟨f1, f2, f3, f4⟩ := bL_fit (r := 4) S mem h40 (by rw [hl4]; omega)
  have hw4 := h4.bL hSb (by rw [hl4]; omega)
  have hu4 := up_.bL (r := 4) (A := S) h40 (by rw [hl4]; omega)
  have rr : ∀ r : Nat, r ≠ 4 → r ≠ 12 → bL_ mem 4 S r = mem r := fun r x y => bL_row x y _ _
  have cq := c3 A.length q (by rw [List.getElem?_append_right (Nat.le_refl _), Nat.sub_self]; rfl)
  have vz : bL_ mem 4 S (54 + 8 * N + A.length) 3 = q.2.length := by rw [rr _ (by omega) (by omega)]; exact cq.2.2.1
  generalize hM : bL_ mem 4 S = M at *
  have fin : ∀ m' : mt_M, st_ M (54 + 8 * N + A.length) 3 (q.2.length + (e - b)) = m' → ((A ++ [q] = [] → (some (vi 1) : Option Value) = some (vi 0) ∧ mem = m') ∧ (A ++ [q] ≠ [] → (some (vi 1) : Option Value) = some (vi 1) ∧ oG m' N (apl (A ++ [q]) S) ∧ fG N mem m' ∧ bw_ m' 4 ∧ m' 4 1 = mem 4 1 + (e - b))) := by
    intro m' hm'
    refine ⟨fun z => absurd z hE, fun _ => ⟨rfl, ?_, ?_, ?_, ?_⟩⟩
    · have x4 : m' 4 = M 4 := by rw [← hm', st_row (by omega)]
      have x12 : m' 12 = M 12 := by rw [← hm', st_row (by omega)]
      have x3 : m' 3 = mem 3 := by rw [← hm', st_row (by omega), rr 3 (by decide) (by decide)]
      have x11 : m' 11 = mem 11 := by rw [← hm', st_row (by omega), rr 11 (by decide) (by decide)]
      have xk : m' (22 + N) = mem (22 + N) := by rw [← hm', st_row (by omega), rr _ (by omega) (by omega)]
      have xf : ∀ f : Nat, f ≠ A.length → m' (54 + 8 * N + f) = mem (54 + 8 * N + f) := fun f hf => by rw [← hm', st_row (by omega), rr _ (by omega) (by omega)]
      have xj : ∀ z : Int, z ≠ 3 → m' (54 + 8 * N + A.length) z = mem (54 + 8 * N + A.length) z := fun z hz => by rw [← hm', st_ne (Or.inr hz), rr _ (by omega) (by omega)]
      have xj3 : m' (54 + 8 * N + A.length) 3 = q.2.length + (e - b) := by rw [← hm', st_same]
      have hu : up_ mem m' 4 := by unfold up_; rw [x4, show m' (4 + 8) = M (4 + 8) from x12]; exact hu4
      rw [apl_snoc]
      have hBl : (A ++ [(q.1, q.2 ++ S)]).length = A.length + 1 := by rw [List.length_append]; rfl
      have hQl : ((q.2 ++ S).length : Int) = q.2.length + (e - b) := by rw [List.length_append, ← hS]; omega
      refine ⟨⟨by rw [xk, hBl]; exact c1, by rw [hBl]; exact c2, fun f p hp => ?_⟩, fun _ => ?_⟩
      · rcases get_snoc hp with ⟨hf9, hp⟩ | ⟨rfl, rfl⟩
        · exact (c3 f p (by rw [List.getElem?_append_left hf9]; exact hp)).mov (xf f (by omega)) (by rw [x3]) x11 hu
        · obtain ⟨⟨a1, a2, a3, a4⟩, b1', b2, b3, b4⟩ := cq
          unfold cF
          rw [xj 0 (by decide), xj 1 (by decide), xj 2 (by decide), xj3, x3, x11, x4, x12]
          refine ⟨⟨a1, a2, a3, a4⟩, b1', hQl.symm, by show mem _ 2 + ((q.2 ++ S).length : Int) ≤ _; omega, ?_⟩
          show slc (M 12) (mem (54 + 8 * N + A.length) 2) (mem (54 + 8 * N + A.length) 2 + ((q.2 ++ S).length : Int)) = q.2 ++ S
          have e2 : mem (54 + 8 * N + A.length) 2 + (q.2.length : Int) = mem 4 1 := by rw [← c4, b2]
          rw [hQl, slc_app (q := mem (54 + 8 * N + A.length) 2 + q.2.length) (by omega) (by omega)]
          congr 1
          · exact (hu4.slc b3).trans b4
          · rw [show mem (54 + 8 * N + A.length) 2 + ((q.2.length : Int) + (e - b)) = mem 4 1 + S.length by omega, e2]; exact f4
      · rw [hBl, show A.length + 1 - 1 = A.length by omega, xj 2 (by decide), xj3, x4]
        have := cq.2.2.1
        omega
    · refine ⟨fun r x y z w => by rw [← hm', st_row (by omega), rr r x y], fun z _ => by rw [← hm', st_row (by omega), rr _ (by omega) (by omega)], ?_⟩
      rw [← hm']
      unfold up_
      rw [st_row (by omega), st_row (by omega)]
      exact hu4
    · rw [← hm']; exact hw4.mov (st_row (by omega)) (st_row (by omega))
    · rw [← hm', st_row (by omega), f1]; omega
  refine jj_aload_n h d_T_goOnWithField_0 rfl ⟨_, rfl⟩ ?_
  refine jj_g_E_fieldCount h (by omega) fl_T_144 d_T_goOnWithField_1 ?_
  try simp only [c1, vz]
  refine jj_iconst h d_T_goOnWithField_4 ?_
  refine jj_isub h d_T_goOnWithField_5 ?_
  refine jj_istore h d_T_goOnWithField_6 (Nat.le_of_ble_eq_true rfl) rfl ?_
  refine jj_iload h d_T_goOnWithField_8 rfl ?_
  refine jj_if_lt h 20 d_T_goOnWithField_10 (by decide) ⟨by omega, by omega⟩ (fun q10 => absurd q10 (by omega)) (fun _ => ?_)
  refine jj_iload h d_T_goOnWithField_13 rfl ?_
  refine jj_bipush h d_T_goOnWithField_15 (by decide) ?_
  refine jj_icmp_lt h 22 d_T_goOnWithField_17 (by decide) ⟨by omega, by omega⟩ ⟨by omega, by omega⟩ (fun _ => ?_) (fun q17 => absurd (by omega) q17)
  refine jj_aload_n h d_T_goOnWithField_22 rfl ⟨_, rfl⟩ ?_
  refine jj_g_T_values h  fl_T_20 d_T_goOnWithField_23 ?_
  try simp only [c1, vz]
  refine jj_aload_n h d_T_goOnWithField_26 rfl ⟨_, rfl⟩ ?_
  refine jj_g_T_source h  fl_T_14 d_T_goOnWithField_27 ?_
  try simp only [c1, vz]
  refine jj_iload_n h d_T_goOnWithField_30 rfl ?_
  refine jj_iload_n h d_T_goOnWithField_31 rfl ?_
  refine jj_callV h (cB_putRange (r := 4) ⟨by decide, by decide⟩ hw (by decide) h40 (by rw [hl4]; omega) b0 b1 e1) cv_T_71 (ro_of he (by first | decide | omega) (by decide)) rfl rfl (by unfold mt_N; omega) (ce_B (by omega)) rfl rfl (Nat.le_of_ble_eq_true rfl) d_T_goOnWithField_32 (fun v m32 hv => ?_)
  obtain ⟨rfl, hv⟩ := hv
  rw [show mem (3 + 8) = mem 11 from rfl, hSl, hM] at hv
  subst hv
  refine jj_aload_n h d_T_goOnWithField_35 rfl ⟨_, rfl⟩ ?_
  refine jj_g_E_fields h (by omega) fl_T_147 d_T_goOnWithField_36 ?_
  try simp only [c1, vz]
  refine jj_iload h d_T_goOnWithField_39 rfl ?_
  refine jj_aF h hN (by omega) (by omega) d_T_goOnWithField_41 ?_
  rw [show (((A.length + 1 : Nat) : Int) - 1).toNat = A.length by omega]
  refine jj_dup h d_T_goOnWithField_42 rfl ?_
  refine jj_g_F_valueSize h (by omega) fl_T_151 d_T_goOnWithField_43 ?_
  try simp only [c1, vz]
  refine jj_iload_n h d_T_goOnWithField_46 rfl ?_
  refine jj_iload_n h d_T_goOnWithField_47 rfl ?_
  refine jj_isub h d_T_goOnWithField_48 ?_
  refine jj_iadd h d_T_goOnWithField_49 ?_
  refine jj_p_F_valueSize h (by omega) fl_T_151 d_T_goOnWithField_50 ?_
  refine jj_iconst h d_T_goOnWithField_53 ?_
  refine jj_zret h he (by omega) d_T_goOnWithField_54 ?_
  exact fin _ rfl
