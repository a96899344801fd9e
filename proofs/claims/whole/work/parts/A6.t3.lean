/-! The class: write. -/
theorem RC.mov {m m' : mt_M} {L : List mt_E} (hC : RC m L) (h : ∀ r : Nat, ((3 ≤ r ∧ r ≤ 7) ∨ (11 ≤ r ∧ r ≤ 15) ∨ r = 17 ∨ (22 ≤ r ∧ r ≤ 37) ∨ (54 ≤ r ∧ r ≤ 181)) → m' r = m r) : RC m' L := by
  obtain ⟨c1, c2, c3, b3, b4, b5, b6, b7⟩ := hC
  have ru : ∀ r : Nat, 3 ≤ r → r ≤ 7 → up_ m m' r := fun r a b => up_.same (by rw [h r (by omega)]) (h _ (by omega))
  refine ⟨by rw [h 17 (by omega)]; exact c1, c2, fun N E hN => ?_, b3.mov (h _ (by omega)) (h _ (by omega)), b4.mov (h _ (by omega)) (h _ (by omega)), b5.mov (h _ (by omega)) (h _ (by omega)), b6.mov (h _ (by omega)) (h _ (by omega)), b7.mov (h _ (by omega)) (h _ (by omega))⟩
  have hE := c3 N E hN
  have hl : N < L.length := (List.getElem?_eq_some_iff.mp hN).1
  have hG := hE.2.1.2.1
  exact hE.gen rfl (fun _ _ => rfl) (fun z _ => by rw [h _ (by omega)]) (by rw [h _ (by omega)]; exact hE.1.2.2.2.2.1) (fun f _ => h _ (by omega)) (by rw [h 3 (by omega)]) (h _ (by omega)) (ru 4 (by decide) (by decide)) (ru 5 (by decide) (by decide)) (ru 6 (by decide) (by decide))
theorem bL_B {r : Nat} {m : mt_M} {A : List Int} (hr : 1 ≤ r ∧ r ≤ 8) (h0 : m r 1 = 0) (hA : A.length ≤ ln_ (r + 8)) (hb : B1 A) : bL_ m r A r 1 = A.length ∧ bL_ m r A r 2 = m r 2 ∧ slc (bL_ m r A (r + 8)) 0 A.length = A ∧ bw_ (bL_ m r A) r := by
  obtain ⟨f1, f2, f3, f4⟩ := bL_fit (r := r) A m (by rw [h0]; exact Int.le_refl _) (by rw [h0]; omega)
  rw [h0, Int.zero_add] at f1 f4
  have wz : bw_ m r := ⟨hr, by rw [h0]; exact Int.le_refl _, by rw [h0]; omega, fun i i0 i1 => by rw [h0] at i1; omega⟩
  exact ⟨f1, f2, f4, wz.bL hb (by rw [h0]; omega)⟩
set_option maxHeartbeats 4000000 in
theorem cX_write {G : mt_G} {l : Launch} {mem : mt_M} {L : List mt_E} {W : List Int} (hC : RC mem L) (hkb : kb_ L) (hti : TI_ L) (hL1 : 1 ≤ L.length) (hW : wrT L = W) (hle : W.length ≤ 700) : CT G l y_X_write c_X_write 2 (some .int) 14 [vr G 0] mem (fun v m' => v = some (vi W.length) ∧ m' 2 1 = W.length ∧ slc (m' 10) 0 W.length = W ∧ bw_ m' 2 ∧ ∀ r : Nat, r ≠ 2 → r ≠ 10 → r ≠ 8 → r ≠ 16 → m' r = mem r) := by
  have c17 := hC.1
  have c16 := hC.2.1
  have hWb : B1 W := by rw [← hW]; exact wE_by hC.eb 4 0
  have hC1 : RC (st_ (st_ mem 8 1 0) 8 2 0) L := hC.mov (fun r hr => by rw [st_row (by omega), st_row (by omega)])
  have z1 : st_ (st_ mem 8 1 0) 8 2 0 8 1 = 0 := by rw [st_ne (by decide), st_same]
  have z2 : st_ (st_ mem 8 1 0) 8 2 0 8 2 = 0 := st_same
  obtain ⟨f1, f2, f3, f4⟩ := bL_B (r := 8) (m := st_ (st_ mem 8 1 0) 8 2 0) (A := W) ⟨by decide, by decide⟩ z1 hle hWb
  rw [z2] at f2
  have rr : ∀ r : Nat, r ≠ 8 → r ≠ 16 → bL_ (st_ (st_ mem 8 1 0) 8 2 0) 8 W r = mem r := fun r a b => by rw [bL_row a b, st_row a, st_row a]
  have hp : ∀ l9 : Launch, CT G l9 y_P_printEntity c_P_printEntity 6 none (9 + 4) [vr G 20, vi 0, vi 1] (st_ (st_ mem 8 1 0) 8 2 0) (fun v m' => v = none ∧ bL_ (st_ (st_ mem 8 1 0) 8 2 0) 8 W = m') := fun l9 => by
    have q := cP_printEntity (G := G) hkb hti 4 l9 (st_ (st_ mem 8 1 0) 8 2 0) 0 (by decide) hC1 (by rw [z1]; exact ⟨by decide, by decide⟩) (by decide) (by omega)
    rw [show wE_ L 4 0 = W from hW, show (5 : Int) - ((4 : Nat) : Int) = 1 from rfl] at q
    exact q
  generalize hM : bL_ (st_ (st_ mem 8 1 0) 8 2 0) 8 W = M at *
  have e8 : st_ (st_ M 2 1 0) 2 2 0 8 = M 8 := by rw [st_row (by decide), st_row (by decide)]
  have e16 : st_ (st_ M 2 1 0) 2 2 0 16 = M 16 := by rw [st_row (by decide), st_row (by decide)]
  have y1 : st_ (st_ M 2 1 0) 2 2 0 2 1 = 0 := by rw [st_ne (by decide), st_same]
  obtain ⟨g1, g2, g3, g4⟩ := bL_B (r := 2) (m := st_ (st_ M 2 1 0) 2 2 0) (A := W) ⟨by decide, by decide⟩ y1 hle hWb
  have ss : ∀ r : Nat, r ≠ 2 → r ≠ 10 → bL_ (st_ (st_ M 2 1 0) 2 2 0) 2 W r = M r := fun r a b => by rw [bL_row a b, st_row a, st_row a]
  refine CT.intro (by decide) rfl (Nat.le_of_ble_eq_true rfl) (fun X h he => ?_)
  refine jj_aload_n h d_X_write_0 rfl ⟨_, rfl⟩ ?_
  refine jj_g_X_tree h  fl_X_24 d_X_write_1 ?_
  try simp only [c17]
  refine jj_g_T_count h  fl_X_55 d_X_write_4 ?_
  try simp only [c17]
  refine jj_if_ne h 20 d_X_write_7 (by decide) ⟨by omega, by omega⟩ (fun _ => ?_) (fun q7 => absurd q7 (by omega))
  refine jj_aload_n h d_X_write_20 rfl ⟨_, rfl⟩ ?_
  refine jj_g_X_printer h  fl_X_33 d_X_write_21 ?_
  try simp only [c17]
  refine jj_g_P_draft h  fl_X_155 d_X_write_24 ?_
  try simp only [c17]
  refine jj_astore_n h d_X_write_27 ⟨_, rfl⟩ (Nat.le_of_ble_eq_true rfl) rfl ?_
  refine jj_aload_n h d_X_write_28 rfl ⟨_, rfl⟩ ?_
  refine jj_callV h (cB_empty ⟨by decide, by decide⟩) cv_X_44 (ro_of he (by first | decide | omega) (by decide)) rfl rfl (by unfold mt_N; omega) (ce_B (by omega)) rfl rfl (Nat.le_of_ble_eq_true rfl) d_X_write_29 (fun v m29 hv => ?_)
  obtain ⟨rfl, rfl⟩ := hv
  refine jj_aload_n h d_X_write_32 rfl ⟨_, rfl⟩ ?_
  refine jj_g_X_printer h  fl_X_33 d_X_write_33 ?_
  try simp only [c17]
  refine jj_iconst h d_X_write_36 ?_
  refine jj_iconst h d_X_write_37 ?_
  refine jj_callV h (hp _) cv_X_158 (ro_of he (by first | decide | omega) (by decide)) rfl rfl (by decide) rfl rfl rfl (Nat.le_of_ble_eq_true rfl) d_X_write_38 (fun v m38 hv => ?_)
  obtain ⟨rfl, rfl⟩ := hv
  refine jj_aload_n h d_X_write_41 rfl ⟨_, rfl⟩ ?_
  refine jj_g_B_spilled h (by omega) fl_X_162 d_X_write_42 ?_
  rw [f2]
  refine jj_if_eq h 58 d_X_write_45 (by decide) ⟨by decide, by decide⟩ (fun _ => ?_) (fun q45 => absurd (rfl) q45)
  refine jj_aload_n h d_X_write_58 rfl ⟨_, rfl⟩ ?_
  refine jj_g_X_latest h  fl_X_18 d_X_write_59 ?_
  try simp only [c17]
  refine jj_callV h (cB_empty ⟨by decide, by decide⟩) cv_X_44 (ro_of he (by first | decide | omega) (by decide)) rfl rfl (by unfold mt_N; omega) (ce_B (by omega)) rfl rfl (Nat.le_of_ble_eq_true rfl) d_X_write_62 (fun v m62 hv => ?_)
  obtain ⟨rfl, rfl⟩ := hv
  refine jj_aload_n h d_X_write_65 rfl ⟨_, rfl⟩ ?_
  refine jj_g_X_latest h  fl_X_18 d_X_write_66 ?_
  try simp only [c17]
  refine jj_aload_n h d_X_write_69 rfl ⟨_, rfl⟩ ?_
  refine jj_iconst h d_X_write_70 ?_
  refine jj_aload_n h d_X_write_71 rfl ⟨_, rfl⟩ ?_
  refine jj_g_B_size h (by omega) fl_X_37 d_X_write_72 ?_
  rw [e8, f1]
  refine jj_callV h (cB_putRange (r := 2) (q := 8) ⟨by decide, by decide⟩ (f4.mov e8 e16) (by decide) (by rw [y1]; exact Int.le_refl _) (by rw [y1]; decide) (by decide) (by omega) (by rw [e8, f1]; exact Int.le_refl _)) cv_X_171 (ro_of he (by first | decide | omega) (by decide)) rfl rfl (by unfold mt_N; omega) (ce_B (by omega)) rfl rfl (Nat.le_of_ble_eq_true rfl) d_X_write_75 (fun v m75 hv => ?_)
  obtain ⟨rfl, hv⟩ := hv
  rw [show st_ (st_ M 2 1 0) 2 2 0 (8 + 8) = M 16 from e16, f3] at hv
  subst hv
  refine jj_aload_n h d_X_write_78 rfl ⟨_, rfl⟩ ?_
  refine jj_g_X_latest h  fl_X_18 d_X_write_79 ?_
  try simp only [c17]
  refine jj_g_B_size h (by omega) fl_X_37 d_X_write_82 ?_
  rw [g1]
  refine jj_iret h he d_X_write_85 ?_
  exact ⟨rfl, g1, g3, g4, fun r a b c d => by rw [ss r a b, rr r c d]⟩
theorem tX_write0 {G : mt_G} {l : Launch} {mem : mt_M} (hl : l.stackTraces = false) (h0 : mem 17 7 = 0) : TX G l y_X_write c_X_write 2 (some .int) 14 [vr G 0] mem xI (fun m' => ∀ r : Nat, r ≠ 8 → r ≠ 16 → m' r = mem r) := by
  refine TX.intro hl (by decide) rfl (Nat.le_of_ble_eq_true rfl) (fun X h he => ?_)
  refine jj_aload_n h d_X_write_0 rfl ⟨_, rfl⟩ ?_
  refine jj_g_X_tree h  fl_X_24 d_X_write_1 ?_
  refine jj_g_T_count h  fl_X_55 d_X_write_4 ?_
  refine jj_if_ne h 20 d_X_write_7 (by decide) ⟨by omega, by omega⟩ (fun q7 => absurd (by omega) q7) (fun _ => ?_)
  refine jj_thr h he 16 xk_I xk_X_xI xl_X_xI rfl d_X_write_10 d_X_write_13 d_X_write_14 d_X_write_16 d_X_write_19 (Nat.le_of_ble_eq_true rfl) (by first | decide | omega) rfl ?_
  exact fun _ _ _ => rfl
set_option maxHeartbeats 4000000 in
theorem tX_write2 {G : mt_G} {l : Launch} {mem : mt_M} {L : List mt_E} {W : List Int} (hl : l.stackTraces = false) (hC : RC mem L) (hkb : kb_ L) (hti : TI_ L) (hL1 : 1 ≤ L.length) (hW : wrT L = W) (hle : 700 < W.length) : TX G l y_X_write c_X_write 2 (some .int) 14 [vr G 0] mem xU (fun m' => ∀ r : Nat, r ≠ 8 → r ≠ 16 → m' r = mem r) := by
  have c17 := hC.1
  have c16 := hC.2.1
  have hC1 : RC (st_ (st_ mem 8 1 0) 8 2 0) L := hC.mov (fun r hr => by rw [st_row (by omega), st_row (by omega)])
  have z1 : st_ (st_ mem 8 1 0) 8 2 0 8 1 = 0 := by rw [st_ne (by decide), st_same]
  have f2 := draft_no (mem := mem) hle
  have rr : ∀ r : Nat, r ≠ 8 → r ≠ 16 → bL_ (st_ (st_ mem 8 1 0) 8 2 0) 8 W r = mem r := fun r a b => by rw [bL_row a b, st_row a, st_row a]
  have hp : ∀ l9 : Launch, CT G l9 y_P_printEntity c_P_printEntity 6 none (9 + 4) [vr G 20, vi 0, vi 1] (st_ (st_ mem 8 1 0) 8 2 0) (fun v m' => v = none ∧ bL_ (st_ (st_ mem 8 1 0) 8 2 0) 8 W = m') := fun l9 => by
    have q := cP_printEntity (G := G) hkb hti 4 l9 (st_ (st_ mem 8 1 0) 8 2 0) 0 (by decide) hC1 (by rw [z1]; exact ⟨by decide, by decide⟩) (by decide) (by omega)
    rw [show wE_ L 4 0 = W from hW, show (5 : Int) - ((4 : Nat) : Int) = 1 from rfl] at q
    exact q
  generalize hM : bL_ (st_ (st_ mem 8 1 0) 8 2 0) 8 W = M at *
  refine TX.intro hl (by decide) rfl (Nat.le_of_ble_eq_true rfl) (fun X h he => ?_)
  refine jj_aload_n h d_X_write_0 rfl ⟨_, rfl⟩ ?_
  refine jj_g_X_tree h  fl_X_24 d_X_write_1 ?_
  try simp only [c17]
  refine jj_g_T_count h  fl_X_55 d_X_write_4 ?_
  try simp only [c17]
  refine jj_if_ne h 20 d_X_write_7 (by decide) ⟨by omega, by omega⟩ (fun _ => ?_) (fun q7 => absurd q7 (by omega))
  refine jj_aload_n h d_X_write_20 rfl ⟨_, rfl⟩ ?_
  refine jj_g_X_printer h  fl_X_33 d_X_write_21 ?_
  try simp only [c17]
  refine jj_g_P_draft h  fl_X_155 d_X_write_24 ?_
  try simp only [c17]
  refine jj_astore_n h d_X_write_27 ⟨_, rfl⟩ (Nat.le_of_ble_eq_true rfl) rfl ?_
  refine jj_aload_n h d_X_write_28 rfl ⟨_, rfl⟩ ?_
  refine jj_callV h (cB_empty ⟨by decide, by decide⟩) cv_X_44 (ro_oX he (by first | decide | omega) (by decide)) rfl rfl (by unfold mt_N; omega) (ce_B (by omega)) rfl rfl (Nat.le_of_ble_eq_true rfl) d_X_write_29 (fun v m29 hv => ?_)
  obtain ⟨rfl, rfl⟩ := hv
  refine jj_aload_n h d_X_write_32 rfl ⟨_, rfl⟩ ?_
  refine jj_g_X_printer h  fl_X_33 d_X_write_33 ?_
  try simp only [c17]
  refine jj_iconst h d_X_write_36 ?_
  refine jj_iconst h d_X_write_37 ?_
  refine jj_callV h (hp _) cv_X_158 (ro_oX he (by first | decide | omega) (by decide)) rfl rfl (by decide) rfl rfl rfl (Nat.le_of_ble_eq_true rfl) d_X_write_38 (fun v m38 hv => ?_)
  obtain ⟨rfl, rfl⟩ := hv
  refine jj_aload_n h d_X_write_41 rfl ⟨_, rfl⟩ ?_
  refine jj_g_B_spilled h (by omega) fl_X_162 d_X_write_42 ?_
  rw [f2]
  refine jj_if_eq h 58 d_X_write_45 (by decide) ⟨by decide, by decide⟩ (fun q45 => absurd q45 ((by decide))) (fun _ => ?_)
  refine jj_thr h he 22 xk_U xk_X_xU xl_X_xU rfl d_X_write_48 d_X_write_51 d_X_write_52 d_X_write_54 d_X_write_57 (Nat.le_of_ble_eq_true rfl) (by first | decide | omega) rfl ?_
  exact rr
