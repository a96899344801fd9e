/-! The reference writes: a step of its pile of open entities. -/
def stk (m : mt_M) : List (Int × Int) → Prop
  | [] => True
  | q :: R => m 192 R.length = q.1 ∧ m 193 R.length = q.2 ∧ stk m R
theorem stk.mv {m m' : mt_M} : ∀ (S : List (Int × Int)), stk m S → (∀ z : Int, z < S.length → m' 192 z = m 192 z ∧ m' 193 z = m 193 z) → stk m' S
  | [], _, _ => trivial
  | q :: R, h, k => by
    rw [List.length_cons] at k
    obtain ⟨k1, k2⟩ := k R.length (by omega)
    exact ⟨by rw [k1]; exact h.1, by rw [k2]; exact h.2.1, stk.mv R h.2.2 (fun z hz => k z (by omega))⟩
def fO_ (m m' : mt_M) : Prop := (∀ z : Int, z ≠ 17 → z ≠ 19 → z ≠ 22 → m' 182 z = m 182 z) ∧ (∀ r : Nat, r ≠ 182 → r ≠ 190 → r ≠ 192 → r ≠ 193 → m' r = m r)
theorem fO_.wc {m m' m2 : mt_M} {B : List Int} (h : fO_ m m') (hw : wc_ m' B m2) : fO_ m m2 := ⟨fun z a b c => by rw [hw.M a b]; exact h.1 z a b c, fun r a b c d => by rw [hw.row a b]; exact h.2 r a b c d⟩
theorem fO_.oe {m m' : mt_M} {z v : Int} (h : fO_ m m') : fO_ m (st_ m' 192 z v) := ⟨fun y a b c => by rw [st_row (by decide)]; exact h.1 y a b c, fun r a b c d => by rw [st_row c]; exact h.2 r a b c d⟩
theorem fO_.on {m m' : mt_M} {z v : Int} (h : fO_ m m') : fO_ m (st_ m' 193 z v) := ⟨fun y a b c => by rw [st_row (by decide)]; exact h.1 y a b c, fun r a b c d => by rw [st_row d]; exact h.2 r a b c d⟩
theorem fO_.op {m m' : mt_M} {v : Int} (h : fO_ m m') : fO_ m (st_ m' 182 22 v) := ⟨fun y a b c => by rw [st_ne (Or.inr c)]; exact h.1 y a b c, fun r a b c d => by rw [st_row a]; exact h.2 r a b c d⟩
theorem RM.fO {m m' : mt_M} {L : List mt_E} (h : RM m L) (hf : fO_ m m') : RM m' L :=
  h.mv (hf.1 _ (by decide) (by decide) (by decide)) (hf.1 _ (by decide) (by decide) (by decide)) (hf.2 _ (by decide) (by decide) (by decide) (by decide)) (hf.2 _ (by decide) (by decide) (by decide) (by decide)) (hf.2 _ (by decide) (by decide) (by decide) (by decide))
/-- the file holds A, while it has room -/
def fA_ (m : mt_M) (A : List Int) : Prop := m 182 17 = A.length ∧ (A.length ≤ 1800 → slc (m 190) 0 A.length = A)
theorem fA_.wc {m m' : mt_M} {A B : List Int} (h : fA_ m A) (hw : wc_ m B m') : fA_ m' (A ++ B) := by
  refine ⟨by rw [hw.out, h.1, List.length_append]; omega, fun hl => ?_⟩
  obtain ⟨k, rfl⟩ := hw
  rw [List.length_append] at hl ⊢
  have e1 : (st_ (pL m B) 182 19 k) 190 = wrL m 190 A.length B 190 := by rw [st_row (by decide)]; exact pL_file B m _ h.1 (by omega)
  rw [e1, show ((A.length + B.length : Nat) : Int) = (A.length : Int) + B.length by omega, slc_app (q := A.length) (by omega) (by omega), wrL_slc]
  congr 1
  rw [← h.2 (by omega)]
  have hll := h.2 (by omega)
  rw [hll]
  conv => rhs; rw [← hll]
  exact slc_ext (fun i _ h2 => wrL_out _ _ _ _ (Or.inl h2))
theorem fA_.fr {m m' : mt_M} {A : List Int} (h : fA_ m A) (h1 : m' 182 17 = m 182 17) (h2 : m' 190 = m 190) : fA_ m' A := ⟨by rw [h1]; exact h.1, by rw [h2]; exact h.2⟩
def ws_ (m0 m : mt_M) (S : List (Int × Int)) (A : List Int) : Prop := fO_ m0 m ∧ fA_ m A ∧ m 182 22 = S.length ∧ stk m S
def dl_ (E : mt_E) (z : Int) : List Int := if E.1 0 = 1 then mk9 E z else []
def nlR (L : List mt_E) : List (Int × Int) → List Int
  | [] => []
  | q :: _ => if (gE L q.1).1 0 = 1 then [13, 10] else []
set_option maxHeartbeats 6000000 in
theorem cM_goesOn {G : mt_G} {l : Launch} {m0 mem : mt_M} {L : List mt_E} {e nx K : Int} {R : List (Int × Int)} {A : List Int} (h9 : RM m0 L) (hkb : kb_ L) (hw : ws_ m0 mem ((e, nx) :: R) A) (e0 : 0 ≤ e) (e1 : e < L.length) (n0 : 0 ≤ nx) (n1 : nx ≤ 16) (hR4 : R.length ≤ 4) (hRv : ∀ q R', R = q :: R' → 0 ≤ q.1 ∧ q.1 < L.length) (hA : A.length ≤ 1600000000) (hK : pf_ L e (L.length - nx).toNat nx = K) : CT G l y_M_goesOn c_M_goesOn 4 none 6 [vr G 182] mem (fun v m' => v = none ∧ m' 182 17 ≤ mem 182 17 + 60000 ∧ (0 ≤ K → ws_ m0 m' ((K, K + 1) :: (e, K + 1) :: R) (A ++ dl_ (gE L e) 0 ++ hd_ (gE L K))) ∧ (¬ 0 ≤ K → ws_ m0 m' R (A ++ dl_ (gE L e) 1 ++ nlR L R))) := by
  obtain ⟨w1, w2, w3, w4, w5, w6⟩ := hw
  have hl := h9.2.2.1
  have hRM := h9.fO w1
  have hO : mem 182 22 = (R.length : Int) + 1 := by rw [w3, List.length_cons]; omega
  have hi : (R.length : Int) + 1 - 1 = R.length := by omega
  have s1 : mem 192 R.length = e := w4
  have s2 : mem 193 R.length = nx := w5
  have ho := w2.1
  have hE := hRM.at e0 e1
  have k0 := hE.1 0 (by decide) (by decide)
  obtain ⟨⟨b1, b2⟩, -, -⟩ := hkb e e0 e1
  refine CT.intro (by decide) rfl (Nat.le_of_ble_eq_true rfl) (fun X h he => ?_)
  have hn := pf_n (L := L) (e := e) (L.length - nx).toNat nx n0
  have hr := pf_r (L := L) (e := e) (L.length - nx).toNat nx
  rw [hK] at hn hr
  by_cases hK0 : 0 ≤ K
  · obtain ⟨r1, r2, r3⟩ := hr hK0
    have hRM2 : RM (st_ mem 193 R.length (K + 1)) L := h9.fO w1.on
    have op : ∀ (m2 : mt_M) (x : Option Value), wc_ (st_ mem 193 R.length (K + 1)) (dl_ (gE L e) 0) m2 → m2 182 17 ≤ mem 182 17 + 2000 → JJ G X 0 0 m2 73 [some (vr G 182), some (vi e), some (vi K), x] [] := by
      intro m2 x hm hlen
      have hmo := hm.out
      rw [st_row (by decide)] at hmo
      have hO2 : m2 182 22 = (R.length : Int) + 1 := by rw [hm.M (by decide) (by decide), st_row (by decide)]; exact hO
      refine jj_aload_n h d_M_goesOn_73 rfl ⟨_, rfl⟩ ?_
      refine jj_iload_n h d_M_goesOn_74 rfl ?_
      refine jj_callV h (cM_opens (hRM2.wc hm) hkb hK0 (by omega) (by omega) (by omega) hO2 (by omega) (by omega)) cv_M_279 (ro_of he (by decide) (by decide)) rfl rfl (by decide) rfl rfl rfl (Nat.le_of_ble_eq_true rfl) d_M_goesOn_75 (fun v m75 hv => ?_)
      obtain ⟨rfl, m1, hm1, hl1, rfl⟩ := hv
      refine jj_vret h he d_M_goesOn_78 ?_
      refine ⟨rfl, by rw [st_ne (by decide), st_row (by decide), st_row (by decide)]; omega, fun _ => ⟨((w1.on.wc hm).wc hm1).oe.on.op, ?_, ?_, ?_⟩, fun z => absurd hK0 z⟩
      · exact (((w2.fr (by rw [st_row (by decide)]) (by rw [st_row (by decide)])).wc hm).wc hm1).fr (by rw [st_ne (by decide), st_row (by decide), st_row (by decide)]) (by rw [st_row (by decide), st_row (by decide), st_row (by decide)])
      · rw [st_same, List.length_cons, List.length_cons]; omega
      · have hc : ((((e, K + 1) :: R).length : Nat) : Int) = (R.length : Int) + 1 := by rw [List.length_cons]; omega
        have hoe : m1 192 = mem 192 := by rw [hm1.row (by decide) (by decide), hm.row (by decide) (by decide), st_row (by decide)]
        have hon : m1 193 = st_ mem 193 R.length (K + 1) 193 := by rw [hm1.row (by decide) (by decide), hm.row (by decide) (by decide)]
        refine ⟨?_, ?_, ?_, ?_, ?_⟩
        · rw [hc, st_row (by decide), st_row (by decide), st_same]
        · rw [hc, st_row (by decide), st_same]
        · rw [st_row (by decide), st_row (by decide), st_ne (by omega), hoe]; exact s1
        · rw [st_row (by decide), st_ne (by omega), st_row (by decide), hon, st_same]
        · refine stk.mv R w6 (fun z hz => ⟨?_, ?_⟩)
          · rw [st_row (by decide), st_row (by decide), st_ne (by omega), hoe]
          · rw [st_row (by decide), st_ne (by omega), st_row (by decide), hon, st_ne (by omega)]
    refine jj_aload_n h d_M_goesOn_0 rfl ⟨_, rfl⟩ ?_
    refine jj_g_M_openEntity h  fl_M_37 d_M_goesOn_1 ?_
    try simp only [hO]
    refine jj_aload_n h d_M_goesOn_4 rfl ⟨_, rfl⟩ ?_
    refine jj_g_M_open h  fl_M_269 d_M_goesOn_5 ?_
    try simp only [hO]
    refine jj_iconst h d_M_goesOn_8 ?_
    refine jj_isub h d_M_goesOn_9 ?_
    rw [hi]
    refine jj_iaload (N := 6) h (by decide) rfl (by decide) (by omega) (by omega) d_M_goesOn_10 ?_
    rw [s1]
    refine jj_istore_n h d_M_goesOn_11 (Nat.le_of_ble_eq_true rfl) rfl ?_
    refine jj_aload_n h d_M_goesOn_12 rfl ⟨_, rfl⟩ ?_
    refine jj_iload_n h d_M_goesOn_13 rfl ?_
    refine jj_aload_n h d_M_goesOn_14 rfl ⟨_, rfl⟩ ?_
    refine jj_g_M_openNext h  fl_M_40 d_M_goesOn_15 ?_
    try simp only [hO]
    refine jj_aload_n h d_M_goesOn_18 rfl ⟨_, rfl⟩ ?_
    refine jj_g_M_open h  fl_M_269 d_M_goesOn_19 ?_
    try simp only [hO]
    refine jj_iconst h d_M_goesOn_22 ?_
    refine jj_isub h d_M_goesOn_23 ?_
    rw [hi]
    refine jj_iaload (N := 6) h (by decide) rfl (by decide) (by omega) (by omega) d_M_goesOn_24 ?_
    rw [s2]
    refine jj_callV h (cM_partOf hRM hkb ⟨by omega, by omega⟩ n0 n1 hK) cv_M_272 (ro_of he (by decide) (by decide)) rfl rfl (by decide) rfl rfl rfl (Nat.le_of_ble_eq_true rfl) d_M_goesOn_25 (fun v m25 hv => ?_)
    obtain ⟨rfl, rfl⟩ := hv
    refine jj_istore_n h d_M_goesOn_28 (Nat.le_of_ble_eq_true rfl) rfl ?_
    refine jj_aload_n h d_M_goesOn_29 rfl ⟨_, rfl⟩ ?_
    refine jj_iload_n h d_M_goesOn_30 rfl ?_
    refine jj_iconst h d_M_goesOn_31 ?_
    refine jj_callV h (cM_of (by omega) (by omega)) cv_M_59 (ro_of he (by decide) (by decide)) rfl rfl (by decide) rfl rfl rfl (Nat.le_of_ble_eq_true rfl) d_M_goesOn_32 (fun v m32 hv => ?_)
    obtain ⟨rfl, rfl⟩ := hv
    rw [k0]
    refine jj_iconst h d_M_goesOn_35 ?_
    refine jj_icmp_ne h 43 d_M_goesOn_36 (by decide) ⟨by omega, by omega⟩ ⟨by omega, by omega⟩ (fun q36 => ?_) (fun q36 => ?_)
    · refine jj_iconst h d_M_goesOn_43 ?_
      refine jj_istore_n h d_M_goesOn_44 (Nat.le_of_ble_eq_true rfl) rfl ?_
      refine jj_iload_n h d_M_goesOn_45 rfl ?_
      refine jj_if_lt h 79 d_M_goesOn_46 (by decide) ⟨by omega, by omega⟩ (fun q46 => absurd q46 (by omega)) (fun _ => ?_)
      refine jj_aload_n h d_M_goesOn_49 rfl ⟨_, rfl⟩ ?_
      refine jj_g_M_openNext h  fl_M_40 d_M_goesOn_50 ?_
      try simp only [hO]
      refine jj_aload_n h d_M_goesOn_53 rfl ⟨_, rfl⟩ ?_
      refine jj_g_M_open h  fl_M_269 d_M_goesOn_54 ?_
      try simp only [hO]
      refine jj_iconst h d_M_goesOn_57 ?_
      refine jj_isub h d_M_goesOn_58 ?_
      rw [hi]
      refine jj_iload_n h d_M_goesOn_59 rfl ?_
      refine jj_iconst h d_M_goesOn_60 ?_
      refine jj_iadd h d_M_goesOn_61 ?_
      refine jj_iastore (N := 6) h (by decide) (fun _ => rfl) (by decide) (by omega) (by omega) d_M_goesOn_62 ?_
      refine jj_iload_n h d_M_goesOn_63 rfl ?_
      refine jj_if_eq h 73 d_M_goesOn_64 (by decide) ⟨by decide, by decide⟩ (fun _ => ?_) (fun q64 => absurd (rfl) q64)
      exact op _ _ (by unfold dl_; rw [if_neg (by omega)]; exact wc_.nil _) (by rw [st_row (by decide)]; omega)
    · refine jj_iconst h d_M_goesOn_39 ?_
      refine jj_goto h 44 d_M_goesOn_40 (by decide) ?_
      refine jj_istore_n h d_M_goesOn_44 (Nat.le_of_ble_eq_true rfl) rfl ?_
      refine jj_iload_n h d_M_goesOn_45 rfl ?_
      refine jj_if_lt h 79 d_M_goesOn_46 (by decide) ⟨by omega, by omega⟩ (fun q46 => absurd q46 (by omega)) (fun _ => ?_)
      refine jj_aload_n h d_M_goesOn_49 rfl ⟨_, rfl⟩ ?_
      refine jj_g_M_openNext h  fl_M_40 d_M_goesOn_50 ?_
      try simp only [hO]
      refine jj_aload_n h d_M_goesOn_53 rfl ⟨_, rfl⟩ ?_
      refine jj_g_M_open h  fl_M_269 d_M_goesOn_54 ?_
      try simp only [hO]
      refine jj_iconst h d_M_goesOn_57 ?_
      refine jj_isub h d_M_goesOn_58 ?_
      rw [hi]
      refine jj_iload_n h d_M_goesOn_59 rfl ?_
      refine jj_iconst h d_M_goesOn_60 ?_
      refine jj_iadd h d_M_goesOn_61 ?_
      refine jj_iastore (N := 6) h (by decide) (fun _ => rfl) (by decide) (by omega) (by omega) d_M_goesOn_62 ?_
      refine jj_iload_n h d_M_goesOn_63 rfl ?_
      refine jj_if_eq h 73 d_M_goesOn_64 (by decide) ⟨by decide, by decide⟩ (fun q64 => absurd q64 ((by decide))) (fun _ => ?_)
      refine jj_aload_n h d_M_goesOn_67 rfl ⟨_, rfl⟩ ?_
      refine jj_iload_n h d_M_goesOn_68 rfl ?_
      refine jj_iconst h d_M_goesOn_69 ?_
      refine jj_callV h (cM_putDelimiter hRM2 e0 e1 (by omega) (Or.inl rfl) (by rw [st_row (by decide)]; omega) (by rw [st_row (by decide)]; omega)) cv_M_275 (ro_of he (by decide) (by decide)) rfl rfl (by decide) rfl rfl rfl (Nat.le_of_ble_eq_true rfl) d_M_goesOn_70 (fun v m70 hv => ?_)
      obtain ⟨rfl, hv, hvl⟩ := hv
      exact op _ _ (by unfold dl_; rw [if_pos (by omega)]; exact hv) (by rw [st_row (by decide)] at hvl; omega)
  · have fin : ∀ (m2 : mt_M) (x : Option Value), wc_ mem (dl_ (gE L e) 1) m2 → m2 182 17 ≤ mem 182 17 + 2000 → JJ G X 0 0 m2 89 [some (vr G 182), some (vi e), some (vi K), x] [] := by
      intro m2 x hm hlen
      have hmo := hm.out
      have hO2 : m2 182 22 = (R.length : Int) + 1 := by rw [hm.M (by decide) (by decide)]; exact hO
      have hf2 : fO_ m0 (st_ m2 182 22 R.length) := (w1.wc hm).op
      have hA2 : fA_ (st_ m2 182 22 R.length) (A ++ dl_ (gE L e) 1) := (w2.wc hm).fr (st_ne (by decide)) (st_row (by decide))
      have hs2 : stk (st_ m2 182 22 R.length) R := stk.mv R w6 (fun z hz => ⟨by rw [st_row (by decide), hm.row (by decide) (by decide)], by rw [st_row (by decide), hm.row (by decide) (by decide)]⟩)
      have ho3 : st_ m2 182 22 R.length 182 17 = m2 182 17 := st_ne (by decide)
      have ho4 : st_ m2 182 22 R.length 182 22 = (R.length : Int) := st_same
      cases R with
      | nil =>
        refine jj_aload_n h d_M_goesOn_89 rfl ⟨_, rfl⟩ ?_
        refine jj_dup h d_M_goesOn_90 rfl ?_
        refine jj_g_M_open h  fl_M_269 d_M_goesOn_91 ?_
        try simp only [hO2]
        refine jj_iconst h d_M_goesOn_94 ?_
        refine jj_isub h d_M_goesOn_95 ?_
        rw [hi]
        refine jj_p_M_open h  fl_M_269 d_M_goesOn_96 ?_
        refine jj_aload_n h d_M_goesOn_99 rfl ⟨_, rfl⟩ ?_
        refine jj_g_M_open h  fl_M_269 d_M_goesOn_100 ?_
        rw [ho4]
        refine jj_if_le h 130 d_M_goesOn_103 (by decide) ⟨by decide, by decide⟩ (fun _ => ?_) (fun q103 => absurd ((by decide)) q103)
        refine jj_vret h he d_M_goesOn_130 ?_
        exact ⟨rfl, by omega, fun z => absurd z hK0, fun _ => ⟨hf2, by show fA_ _ (_ ++ []); rw [List.append_nil]; exact hA2, ho4, hs2⟩⟩
      | cons q R' =>
        obtain ⟨v0, v1⟩ := hRv q R' rfl
        have ho5 : (((q :: R').length : Nat) : Int) = (R'.length : Int) + 1 := by rw [List.length_cons]; omega
        have hEq := (h9.fO hf2).at v0 v1
        have kq := hEq.1 0 (by decide) (by decide)
        obtain ⟨⟨d1, d2⟩, -, -⟩ := hkb q.1 v0 v1
        have hsq : st_ m2 182 22 ((q :: R').length : Nat) 192 R'.length = q.1 := hs2.1
        have hnl : nlR L (q :: R') = if (gE L q.1).1 0 = 1 then [13, 10] else [] := rfl
        generalize hm3 : st_ m2 182 22 (((q :: R').length : Nat) : Int) = m3 at *
        refine jj_aload_n h d_M_goesOn_89 rfl ⟨_, rfl⟩ ?_
        refine jj_dup h d_M_goesOn_90 rfl ?_
        refine jj_g_M_open h  fl_M_269 d_M_goesOn_91 ?_
        try simp only [hO2]
        refine jj_iconst h d_M_goesOn_94 ?_
        refine jj_isub h d_M_goesOn_95 ?_
        rw [hi]
        refine jj_p_M_open h  fl_M_269 d_M_goesOn_96 ?_
        rw [hm3]
        refine jj_aload_n h d_M_goesOn_99 rfl ⟨_, rfl⟩ ?_
        refine jj_g_M_open h  fl_M_269 d_M_goesOn_100 ?_
        rw [ho4, ho5]
        refine jj_if_le h 130 d_M_goesOn_103 (by decide) ⟨by omega, by omega⟩ (fun q103 => absurd q103 (by omega)) (fun _ => ?_)
        refine jj_aload_n h d_M_goesOn_106 rfl ⟨_, rfl⟩ ?_
        refine jj_aload_n h d_M_goesOn_107 rfl ⟨_, rfl⟩ ?_
        refine jj_g_M_openEntity h  fl_M_37 d_M_goesOn_108 ?_
        try simp only [hO2]
        refine jj_aload_n h d_M_goesOn_111 rfl ⟨_, rfl⟩ ?_
        refine jj_g_M_open h  fl_M_269 d_M_goesOn_112 ?_
        rw [ho4, ho5]
        refine jj_iconst h d_M_goesOn_115 ?_
        refine jj_isub h d_M_goesOn_116 ?_
        rw [show (R'.length : Int) + 1 - 1 = R'.length by omega]
        refine jj_iaload (N := 6) h (by decide) rfl (by decide) (by omega) (by omega) d_M_goesOn_117 ?_
        rw [hsq]
        refine jj_iconst h d_M_goesOn_118 ?_
        refine jj_callV h (cM_of (by omega) (by omega)) cv_M_59 (ro_of he (by decide) (by decide)) rfl rfl (by decide) rfl rfl rfl (Nat.le_of_ble_eq_true rfl) d_M_goesOn_119 (fun v m119 hv => ?_)
        obtain ⟨rfl, rfl⟩ := hv
        rw [kq]
        refine jj_iconst h d_M_goesOn_122 ?_
        refine jj_icmp_ne h 130 d_M_goesOn_123 (by decide) ⟨by omega, by omega⟩ ⟨by omega, by omega⟩ (fun q123 => ?_) (fun q123 => ?_)
        · refine jj_vret h he d_M_goesOn_130 ?_
          rw [hnl, if_neg (by omega), List.append_nil]
          exact ⟨rfl, by omega, fun z => absurd z hK0, fun _ => ⟨hf2, hA2, ho4, hs2⟩⟩
        · refine jj_aload_n h d_M_goesOn_126 rfl ⟨_, rfl⟩ ?_
          refine jj_callV h (cM_putLine (by omega) (by omega)) cv_M_247 (ro_of he (by decide) (by decide)) rfl rfl (by decide) rfl rfl rfl (Nat.le_of_ble_eq_true rfl) d_M_goesOn_127 (fun v m127 hv => ?_)
          obtain ⟨rfl, rfl⟩ := hv
          refine jj_vret h he d_M_goesOn_130 ?_
          rw [hnl, if_pos (by omega)]
          have hwl := (wc_.nil m3).line
          exact ⟨rfl, by rw [hwl.out]; show _ + ((2 : Nat) : Int) ≤ _; omega, fun z => absurd z hK0, fun _ => ⟨hf2.wc hwl, hA2.wc hwl, by rw [hwl.M (by decide) (by decide)]; exact ho4, stk.mv _ hs2 (fun z _ => ⟨by rw [hwl.row (by decide) (by decide)], by rw [hwl.row (by decide) (by decide)]⟩)⟩⟩
    refine jj_aload_n h d_M_goesOn_0 rfl ⟨_, rfl⟩ ?_
    refine jj_g_M_openEntity h  fl_M_37 d_M_goesOn_1 ?_
    try simp only [hO]
    refine jj_aload_n h d_M_goesOn_4 rfl ⟨_, rfl⟩ ?_
    refine jj_g_M_open h  fl_M_269 d_M_goesOn_5 ?_
    try simp only [hO]
    refine jj_iconst h d_M_goesOn_8 ?_
    refine jj_isub h d_M_goesOn_9 ?_
    rw [hi]
    refine jj_iaload (N := 6) h (by decide) rfl (by decide) (by omega) (by omega) d_M_goesOn_10 ?_
    rw [s1]
    refine jj_istore_n h d_M_goesOn_11 (Nat.le_of_ble_eq_true rfl) rfl ?_
    refine jj_aload_n h d_M_goesOn_12 rfl ⟨_, rfl⟩ ?_
    refine jj_iload_n h d_M_goesOn_13 rfl ?_
    refine jj_aload_n h d_M_goesOn_14 rfl ⟨_, rfl⟩ ?_
    refine jj_g_M_openNext h  fl_M_40 d_M_goesOn_15 ?_
    try simp only [hO]
    refine jj_aload_n h d_M_goesOn_18 rfl ⟨_, rfl⟩ ?_
    refine jj_g_M_open h  fl_M_269 d_M_goesOn_19 ?_
    try simp only [hO]
    refine jj_iconst h d_M_goesOn_22 ?_
    refine jj_isub h d_M_goesOn_23 ?_
    rw [hi]
    refine jj_iaload (N := 6) h (by decide) rfl (by decide) (by omega) (by omega) d_M_goesOn_24 ?_
    rw [s2]
    refine jj_callV h (cM_partOf hRM hkb ⟨by omega, by omega⟩ n0 n1 hK) cv_M_272 (ro_of he (by decide) (by decide)) rfl rfl (by decide) rfl rfl rfl (Nat.le_of_ble_eq_true rfl) d_M_goesOn_25 (fun v m25 hv => ?_)
    obtain ⟨rfl, rfl⟩ := hv
    refine jj_istore_n h d_M_goesOn_28 (Nat.le_of_ble_eq_true rfl) rfl ?_
    refine jj_aload_n h d_M_goesOn_29 rfl ⟨_, rfl⟩ ?_
    refine jj_iload_n h d_M_goesOn_30 rfl ?_
    refine jj_iconst h d_M_goesOn_31 ?_
    refine jj_callV h (cM_of (by omega) (by omega)) cv_M_59 (ro_of he (by decide) (by decide)) rfl rfl (by decide) rfl rfl rfl (Nat.le_of_ble_eq_true rfl) d_M_goesOn_32 (fun v m32 hv => ?_)
    obtain ⟨rfl, rfl⟩ := hv
    rw [k0]
    refine jj_iconst h d_M_goesOn_35 ?_
    refine jj_icmp_ne h 43 d_M_goesOn_36 (by decide) ⟨by omega, by omega⟩ ⟨by omega, by omega⟩ (fun q36 => ?_) (fun q36 => ?_)
    · refine jj_iconst h d_M_goesOn_43 ?_
      refine jj_istore_n h d_M_goesOn_44 (Nat.le_of_ble_eq_true rfl) rfl ?_
      refine jj_iload_n h d_M_goesOn_45 rfl ?_
      refine jj_if_lt h 79 d_M_goesOn_46 (by decide) ⟨by omega, by omega⟩ (fun _ => ?_) (fun q46 => absurd (by omega) q46)
      refine jj_iload_n h d_M_goesOn_79 rfl ?_
      refine jj_if_eq h 89 d_M_goesOn_80 (by decide) ⟨by decide, by decide⟩ (fun _ => ?_) (fun q80 => absurd (rfl) q80)
      exact fin _ _ (by unfold dl_; rw [if_neg (by omega)]; exact wc_.nil _) (by omega)
    · refine jj_iconst h d_M_goesOn_39 ?_
      refine jj_goto h 44 d_M_goesOn_40 (by decide) ?_
      refine jj_istore_n h d_M_goesOn_44 (Nat.le_of_ble_eq_true rfl) rfl ?_
      refine jj_iload_n h d_M_goesOn_45 rfl ?_
      refine jj_if_lt h 79 d_M_goesOn_46 (by decide) ⟨by omega, by omega⟩ (fun _ => ?_) (fun q46 => absurd (by omega) q46)
      refine jj_iload_n h d_M_goesOn_79 rfl ?_
      refine jj_if_eq h 89 d_M_goesOn_80 (by decide) ⟨by decide, by decide⟩ (fun q80 => absurd q80 ((by decide))) (fun _ => ?_)
      refine jj_aload_n h d_M_goesOn_83 rfl ⟨_, rfl⟩ ?_
      refine jj_iload_n h d_M_goesOn_84 rfl ?_
      refine jj_iconst h d_M_goesOn_85 ?_
      refine jj_callV h (cM_putDelimiter hRM e0 e1 (by omega) (Or.inr rfl) (by omega) (by omega)) cv_M_275 (ro_of he (by decide) (by decide)) rfl rfl (by decide) rfl rfl rfl (Nat.le_of_ble_eq_true rfl) d_M_goesOn_86 (fun v m86 hv => ?_)
      obtain ⟨rfl, hv, hvl⟩ := hv
      exact fin _ _ (by unfold dl_; rw [if_pos (by omega)]; exact hv) (by omega)
