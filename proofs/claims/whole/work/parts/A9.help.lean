/-! The law's helpers. -/
theorem cL_look0 {G : mt_G} {l : Launch} {mem : mt_M} {L : List mt_E} {e w : Int} (hC : RC mem L) (h0 : 0 ≤ e) (h1 : e < L.length) (w0 : 0 ≤ w) (w9 : w ≤ 9) : CW G l y_L_look c_L_look 5 hh_L_look 8 [vr G 0, vi e, vi w, vr G 194] mem (fun v m' => v = some (vi 0) ∧ st_ mem 194 0 (i2l_ ((gE L e).1 w)) = m') := by
  refine CW.intro (by decide) rfl (Nat.le_of_ble_eq_true rfl) (fun X hX h he => ?_)
  refine jj_aload_n h d_L_look_0 rfl ⟨_, rfl⟩ ?_
  refine jj_iconst h d_L_look_1 ?_
  refine jj_aload_n h d_L_look_2 rfl ⟨_, rfl⟩ ?_
  refine jj_iload_n h d_L_look_3 rfl ?_
  refine jj_iload_n h d_L_look_4 rfl ?_
  refine jj_callV h (cX_look hC h0 h1 w0 w9) cv_L_7 (ro_oW he (by decide) (by decide)) rfl rfl (by decide) rfl rfl rfl (Nat.le_of_ble_eq_true rfl) d_L_look_5 (fun v m5 hv => ?_)
  obtain ⟨rfl, rfl⟩ := hv
  refine jj_i2l h d_L_look_8 ?_
  refine jj_lastore h d_L_look_9 ?_
  refine jj_goto h 21 d_L_look_10 (by decide) ?_
  refine jj_iconst h d_L_look_21 ?_
  exact jj_iretW h he (by decide) (by decide) d_L_look_22 ⟨rfl, rfl⟩
theorem cL_look1 {G : mt_G} {l : Launch} {mem : mt_M} {L : List mt_E} (hl : l.stackTraces = false) {e w : Int} (hC : RC mem L) (he9 : r32 e) (hn : ¬ (0 ≤ e ∧ e < L.length)) : CW G l y_L_look c_L_look 5 hh_L_look 8 [vr G 0, vi e, vi w, vr G 194] mem (fun v m' => v = some (vi 1) ∧ mem = m') := by
  refine CW.intro (by decide) rfl (Nat.le_of_ble_eq_true rfl) (fun X hX h he => ?_)
  have hl9 : X.2.1.stackTraces = false := by rw [hX]; exact hl
  refine jj_aload_n h d_L_look_0 rfl ⟨_, rfl⟩ ?_
  refine jj_iconst h d_L_look_1 ?_
  refine jj_aload_n h d_L_look_2 rfl ⟨_, rfl⟩ ?_
  refine jj_iload_n h d_L_look_3 rfl ?_
  refine jj_iload_n h d_L_look_4 rfl ?_
  refine jj_catchV h he (tX_look1 hl9 hC he9 hn) cv_L_7 (by decide) (by decide) rfl rfl (by decide) rfl rfl rfl (Nat.le_of_ble_eq_true rfl) d_L_look_5 [] (0, 10, 13, 13) [(0, 10, 17, 15)] rfl (fun _ z => absurd z List.not_mem_nil) ⟨by decide, by decide⟩ (by decide) xk_L_xN wx_38 (fun q m9 hm9 => ?_)
  subst hm9
  refine jj_astore h d_L_look_13 ⟨_, rfl⟩ (Nat.le_of_ble_eq_true rfl) rfl ?_
  refine jj_iconst h d_L_look_15 ?_
  exact jj_iretW h he (by decide) (by decide) d_L_look_16 ⟨rfl, rfl⟩
theorem cL_look2 {G : mt_G} {l : Launch} {mem : mt_M} {L : List mt_E} (hl : l.stackTraces = false) {e w : Int} (hC : RC mem L) (h0 : 0 ≤ e) (h1 : e < L.length) (hw : r32 w) (hn : ¬ (0 ≤ w ∧ w ≤ 9)) : CW G l y_L_look c_L_look 5 hh_L_look 8 [vr G 0, vi e, vi w, vr G 194] mem (fun v m' => v = some (vi 2) ∧ mem = m') := by
  refine CW.intro (by decide) rfl (Nat.le_of_ble_eq_true rfl) (fun X hX h he => ?_)
  have hl9 : X.2.1.stackTraces = false := by rw [hX]; exact hl
  refine jj_aload_n h d_L_look_0 rfl ⟨_, rfl⟩ ?_
  refine jj_iconst h d_L_look_1 ?_
  refine jj_aload_n h d_L_look_2 rfl ⟨_, rfl⟩ ?_
  refine jj_iload_n h d_L_look_3 rfl ?_
  refine jj_iload_n h d_L_look_4 rfl ?_
  refine jj_catchV h he (tX_look2 hl9 hC h0 h1 hw hn) cv_L_7 (by decide) (by decide) rfl rfl (by decide) rfl rfl rfl (Nat.le_of_ble_eq_true rfl) d_L_look_5 [(0, 10, 13, 13)] (0, 10, 17, 15) [] rfl (List.forall_mem_cons.mpr ⟨⟨by decide, xN, xk_L_xN, by decide +kernel⟩, fun _ z => absurd z List.not_mem_nil⟩) ⟨by decide, by decide⟩ (by decide) xk_L_xA wx_53 (fun q m9 hm9 => ?_)
  subst hm9
  refine jj_astore h d_L_look_17 ⟨_, rfl⟩ (Nat.le_of_ble_eq_true rfl) rfl ?_
  refine jj_iconst h d_L_look_19 ?_
  exact jj_iretW h he (by decide) (by decide) d_L_look_20 ⟨rfl, rfl⟩
theorem cL_length0 {G : mt_G} {l : Launch} {mem : mt_M} {L : List mt_E} {e f w : Int} (hC : RC mem L) (ho : okF L e f) (hw : w = 0 ∨ w = 1) : CW G l y_L_length c_L_length 6 hh_L_length 8 [vr G 0, vi e, vi f, vi w, vr G 194] mem (fun v m' => v = some (vi 0) ∧ st_ mem 194 0 (i2l_ (((nv_ (gF L e f) w).length : Int))) = m') := by
  refine CW.intro (by decide) rfl (Nat.le_of_ble_eq_true rfl) (fun X hX h he => ?_)
  refine jj_aload h d_L_length_0 rfl ⟨_, rfl⟩ ?_
  refine jj_iconst h d_L_length_2 ?_
  refine jj_aload_n h d_L_length_3 rfl ⟨_, rfl⟩ ?_
  refine jj_iload_n h d_L_length_4 rfl ?_
  refine jj_iload_n h d_L_length_5 rfl ?_
  refine jj_iload_n h d_L_length_6 rfl ?_
  refine jj_callV h (cX_length hC ho hw) cv_L_17 (ro_oW he (by decide) (by decide)) rfl rfl (by decide) rfl rfl rfl (Nat.le_of_ble_eq_true rfl) d_L_length_7 (fun v m7 hv => ?_)
  obtain ⟨rfl, rfl⟩ := hv
  refine jj_i2l h d_L_length_10 ?_
  refine jj_lastore h d_L_length_11 ?_
  refine jj_goto h 23 d_L_length_12 (by decide) ?_
  refine jj_iconst h d_L_length_23 ?_
  exact jj_iretW h he (by decide) (by decide) d_L_length_24 ⟨rfl, rfl⟩
theorem cL_length1 {G : mt_G} {l : Launch} {mem : mt_M} {L : List mt_E} (hl : l.stackTraces = false) {e f w : Int} (hC : RC mem L) (he9 : r32 e) (hf : r32 f) (hn : ¬ okF L e f) : CW G l y_L_length c_L_length 6 hh_L_length 8 [vr G 0, vi e, vi f, vi w, vr G 194] mem (fun v m' => v = some (vi 1) ∧ mem = m') := by
  refine CW.intro (by decide) rfl (Nat.le_of_ble_eq_true rfl) (fun X hX h he => ?_)
  have hl9 : X.2.1.stackTraces = false := by rw [hX]; exact hl
  refine jj_aload h d_L_length_0 rfl ⟨_, rfl⟩ ?_
  refine jj_iconst h d_L_length_2 ?_
  refine jj_aload_n h d_L_length_3 rfl ⟨_, rfl⟩ ?_
  refine jj_iload_n h d_L_length_4 rfl ?_
  refine jj_iload_n h d_L_length_5 rfl ?_
  refine jj_iload_n h d_L_length_6 rfl ?_
  refine jj_catchV h he (tX_length1 hl9 hC he9 hf hn) cv_L_17 (by decide) (by decide) rfl rfl (by decide) rfl rfl rfl (Nat.le_of_ble_eq_true rfl) d_L_length_7 [] (0, 12, 15, 13) [(0, 12, 19, 15)] rfl (fun _ z => absurd z List.not_mem_nil) ⟨by decide, by decide⟩ (by decide) xk_L_xN wx_38 (fun q m9 hm9 => ?_)
  subst hm9
  refine jj_astore h d_L_length_15 ⟨_, rfl⟩ (Nat.le_of_ble_eq_true rfl) rfl ?_
  refine jj_iconst h d_L_length_17 ?_
  exact jj_iretW h he (by decide) (by decide) d_L_length_18 ⟨rfl, rfl⟩
theorem cL_length2 {G : mt_G} {l : Launch} {mem : mt_M} {L : List mt_E} (hl : l.stackTraces = false) {e f w : Int} (hC : RC mem L) (ho : okF L e f) (hw : r32 w) (w0 : w ≠ 0) (w1 : w ≠ 1) : CW G l y_L_length c_L_length 6 hh_L_length 8 [vr G 0, vi e, vi f, vi w, vr G 194] mem (fun v m' => v = some (vi 2) ∧ mem = m') := by
  refine CW.intro (by decide) rfl (Nat.le_of_ble_eq_true rfl) (fun X hX h he => ?_)
  have hl9 : X.2.1.stackTraces = false := by rw [hX]; exact hl
  refine jj_aload h d_L_length_0 rfl ⟨_, rfl⟩ ?_
  refine jj_iconst h d_L_length_2 ?_
  refine jj_aload_n h d_L_length_3 rfl ⟨_, rfl⟩ ?_
  refine jj_iload_n h d_L_length_4 rfl ?_
  refine jj_iload_n h d_L_length_5 rfl ?_
  refine jj_iload_n h d_L_length_6 rfl ?_
  refine jj_catchV h he (tX_length2 hl9 hC ho hw w0 w1) cv_L_17 (by decide) (by decide) rfl rfl (by decide) rfl rfl rfl (Nat.le_of_ble_eq_true rfl) d_L_length_7 [(0, 12, 15, 13)] (0, 12, 19, 15) [] rfl (List.forall_mem_cons.mpr ⟨⟨by decide, xN, xk_L_xN, by decide +kernel⟩, fun _ z => absurd z List.not_mem_nil⟩) ⟨by decide, by decide⟩ (by decide) xk_L_xA wx_53 (fun q m9 hm9 => ?_)
  subst hm9
  refine jj_astore h d_L_length_19 ⟨_, rfl⟩ (Nat.le_of_ble_eq_true rfl) rfl ?_
  refine jj_iconst h d_L_length_21 ?_
  exact jj_iretW h he (by decide) (by decide) d_L_length_22 ⟨rfl, rfl⟩
theorem cL_letter0 {G : mt_G} {l : Launch} {mem : mt_M} {L : List mt_E} {e f w i : Int} (hC : RC mem L) (ho : okF L e f) (hw : w = 0 ∨ w = 1) (i0 : 0 ≤ i) (i1 : i < (nv_ (gF L e f) w).length) : CW G l y_L_letter c_L_letter 7 hh_L_letter 8 [vr G 0, vi e, vi f, vi w, vi i, vr G 194] mem (fun v m' => v = some (vi 0) ∧ st_ mem 194 0 (i2l_ ((nv_ (gF L e f) w).getD i.toNat 0)) = m') := by
  refine CW.intro (by decide) rfl (Nat.le_of_ble_eq_true rfl) (fun X hX h he => ?_)
  refine jj_aload h d_L_letter_0 rfl ⟨_, rfl⟩ ?_
  refine jj_iconst h d_L_letter_2 ?_
  refine jj_aload_n h d_L_letter_3 rfl ⟨_, rfl⟩ ?_
  refine jj_iload_n h d_L_letter_4 rfl ?_
  refine jj_iload_n h d_L_letter_5 rfl ?_
  refine jj_iload_n h d_L_letter_6 rfl ?_
  refine jj_iload h d_L_letter_7 rfl ?_
  refine jj_callV h (cX_letter hC ho hw i0 i1) cv_L_21 (ro_oW he (by decide) (by decide)) rfl rfl (by decide) rfl rfl rfl (Nat.le_of_ble_eq_true rfl) d_L_letter_9 (fun v m9 hv => ?_)
  obtain ⟨rfl, rfl⟩ := hv
  refine jj_i2l h d_L_letter_12 ?_
  refine jj_lastore h d_L_letter_13 ?_
  refine jj_goto h 25 d_L_letter_14 (by decide) ?_
  refine jj_iconst h d_L_letter_25 ?_
  exact jj_iretW h he (by decide) (by decide) d_L_letter_26 ⟨rfl, rfl⟩
theorem cL_letter1 {G : mt_G} {l : Launch} {mem : mt_M} {L : List mt_E} (hl : l.stackTraces = false) {e f w i : Int} (hC : RC mem L) (he9 : r32 e) (hf : r32 f) (hn : ¬ okF L e f) : CW G l y_L_letter c_L_letter 7 hh_L_letter 8 [vr G 0, vi e, vi f, vi w, vi i, vr G 194] mem (fun v m' => v = some (vi 1) ∧ mem = m') := by
  refine CW.intro (by decide) rfl (Nat.le_of_ble_eq_true rfl) (fun X hX h he => ?_)
  have hl9 : X.2.1.stackTraces = false := by rw [hX]; exact hl
  refine jj_aload h d_L_letter_0 rfl ⟨_, rfl⟩ ?_
  refine jj_iconst h d_L_letter_2 ?_
  refine jj_aload_n h d_L_letter_3 rfl ⟨_, rfl⟩ ?_
  refine jj_iload_n h d_L_letter_4 rfl ?_
  refine jj_iload_n h d_L_letter_5 rfl ?_
  refine jj_iload_n h d_L_letter_6 rfl ?_
  refine jj_iload h d_L_letter_7 rfl ?_
  refine jj_catchV h he (tX_letter1 hl9 hC he9 hf hn) cv_L_21 (by decide) (by decide) rfl rfl (by decide) rfl rfl rfl (Nat.le_of_ble_eq_true rfl) d_L_letter_9 [] (0, 14, 17, 13) [(0, 14, 21, 15)] rfl (fun _ z => absurd z List.not_mem_nil) ⟨by decide, by decide⟩ (by decide) xk_L_xN wx_38 (fun q m9 hm9 => ?_)
  subst hm9
  refine jj_astore h d_L_letter_17 ⟨_, rfl⟩ (Nat.le_of_ble_eq_true rfl) rfl ?_
  refine jj_iconst h d_L_letter_19 ?_
  exact jj_iretW h he (by decide) (by decide) d_L_letter_20 ⟨rfl, rfl⟩
theorem cL_letter2 {G : mt_G} {l : Launch} {mem : mt_M} {L : List mt_E} (hl : l.stackTraces = false) {e f w i : Int} (hC : RC mem L) (ho : okF L e f) (hw : r32 w) (w0 : w ≠ 0) (w1 : w ≠ 1) : CW G l y_L_letter c_L_letter 7 hh_L_letter 8 [vr G 0, vi e, vi f, vi w, vi i, vr G 194] mem (fun v m' => v = some (vi 2) ∧ mem = m') := by
  refine CW.intro (by decide) rfl (Nat.le_of_ble_eq_true rfl) (fun X hX h he => ?_)
  have hl9 : X.2.1.stackTraces = false := by rw [hX]; exact hl
  refine jj_aload h d_L_letter_0 rfl ⟨_, rfl⟩ ?_
  refine jj_iconst h d_L_letter_2 ?_
  refine jj_aload_n h d_L_letter_3 rfl ⟨_, rfl⟩ ?_
  refine jj_iload_n h d_L_letter_4 rfl ?_
  refine jj_iload_n h d_L_letter_5 rfl ?_
  refine jj_iload_n h d_L_letter_6 rfl ?_
  refine jj_iload h d_L_letter_7 rfl ?_
  refine jj_catchV h he (tX_letter2 hl9 hC ho hw w0 w1) cv_L_21 (by decide) (by decide) rfl rfl (by decide) rfl rfl rfl (Nat.le_of_ble_eq_true rfl) d_L_letter_9 [(0, 14, 17, 13)] (0, 14, 21, 15) [] rfl (List.forall_mem_cons.mpr ⟨⟨by decide, xN, xk_L_xN, by decide +kernel⟩, fun _ z => absurd z List.not_mem_nil⟩) ⟨by decide, by decide⟩ (by decide) xk_L_xA wx_53 (fun q m9 hm9 => ?_)
  subst hm9
  refine jj_astore h d_L_letter_21 ⟨_, rfl⟩ (Nat.le_of_ble_eq_true rfl) rfl ?_
  refine jj_iconst h d_L_letter_23 ?_
  exact jj_iretW h he (by decide) (by decide) d_L_letter_24 ⟨rfl, rfl⟩
theorem cL_letter3 {G : mt_G} {l : Launch} {mem : mt_M} {L : List mt_E} (hl : l.stackTraces = false) {e f w i : Int} (hC : RC mem L) (ho : okF L e f) (hw : w = 0 ∨ w = 1) (hi : r32 i) (hn : ¬ (0 ≤ i ∧ i < (nv_ (gF L e f) w).length)) : CW G l y_L_letter c_L_letter 7 hh_L_letter 8 [vr G 0, vi e, vi f, vi w, vi i, vr G 194] mem (fun v m' => v = some (vi 1) ∧ mem = m') := by
  refine CW.intro (by decide) rfl (Nat.le_of_ble_eq_true rfl) (fun X hX h he => ?_)
  have hl9 : X.2.1.stackTraces = false := by rw [hX]; exact hl
  refine jj_aload h d_L_letter_0 rfl ⟨_, rfl⟩ ?_
  refine jj_iconst h d_L_letter_2 ?_
  refine jj_aload_n h d_L_letter_3 rfl ⟨_, rfl⟩ ?_
  refine jj_iload_n h d_L_letter_4 rfl ?_
  refine jj_iload_n h d_L_letter_5 rfl ?_
  refine jj_iload_n h d_L_letter_6 rfl ?_
  refine jj_iload h d_L_letter_7 rfl ?_
  refine jj_catchV h he (tX_letter3 hl9 hC ho hw hi hn) cv_L_21 (by decide) (by decide) rfl rfl (by decide) rfl rfl rfl (Nat.le_of_ble_eq_true rfl) d_L_letter_9 [] (0, 14, 17, 13) [(0, 14, 21, 15)] rfl (fun _ z => absurd z List.not_mem_nil) ⟨by decide, by decide⟩ (by decide) xk_L_xN wx_38 (fun q m9 hm9 => ?_)
  subst hm9
  refine jj_astore h d_L_letter_17 ⟨_, rfl⟩ (Nat.le_of_ble_eq_true rfl) rfl ?_
  refine jj_iconst h d_L_letter_19 ?_
  exact jj_iretW h he (by decide) (by decide) d_L_letter_20 ⟨rfl, rfl⟩
theorem cL_content0 {G : mt_G} {l : Launch} {mem : mt_M} {L : List mt_E} {e i : Int} (hC : RC mem L) (ho : okC L e i) : CW G l y_L_content c_L_content 5 hh_L_content 8 [vr G 0, vi e, vi i, vr G 194] mem (fun v m' => v = some (vi 0) ∧ st_ mem 194 0 (i2l_ ((gE L e).2.2.1.getD i.toNat 0)) = m') := by
  refine CW.intro (by decide) rfl (Nat.le_of_ble_eq_true rfl) (fun X hX h he => ?_)
  refine jj_aload_n h d_L_content_0 rfl ⟨_, rfl⟩ ?_
  refine jj_iconst h d_L_content_1 ?_
  refine jj_aload_n h d_L_content_2 rfl ⟨_, rfl⟩ ?_
  refine jj_iload_n h d_L_content_3 rfl ?_
  refine jj_iload_n h d_L_content_4 rfl ?_
  refine jj_callV h (cX_content hC ho) cv_L_25 (ro_oW he (by decide) (by decide)) rfl rfl (by decide) rfl rfl rfl (Nat.le_of_ble_eq_true rfl) d_L_content_5 (fun v m5 hv => ?_)
  obtain ⟨rfl, rfl⟩ := hv
  refine jj_i2l h d_L_content_8 ?_
  refine jj_lastore h d_L_content_9 ?_
  refine jj_goto h 17 d_L_content_10 (by decide) ?_
  refine jj_iconst h d_L_content_17 ?_
  exact jj_iretW h he (by decide) (by decide) d_L_content_18 ⟨rfl, rfl⟩
theorem cL_content1 {G : mt_G} {l : Launch} {mem : mt_M} {L : List mt_E} (hl : l.stackTraces = false) {e i : Int} (hC : RC mem L) (he9 : r32 e) (hi : r32 i) (hn : ¬ okC L e i) : CW G l y_L_content c_L_content 5 hh_L_content 8 [vr G 0, vi e, vi i, vr G 194] mem (fun v m' => v = some (vi 1) ∧ mem = m') := by
  refine CW.intro (by decide) rfl (Nat.le_of_ble_eq_true rfl) (fun X hX h he => ?_)
  have hl9 : X.2.1.stackTraces = false := by rw [hX]; exact hl
  refine jj_aload_n h d_L_content_0 rfl ⟨_, rfl⟩ ?_
  refine jj_iconst h d_L_content_1 ?_
  refine jj_aload_n h d_L_content_2 rfl ⟨_, rfl⟩ ?_
  refine jj_iload_n h d_L_content_3 rfl ?_
  refine jj_iload_n h d_L_content_4 rfl ?_
  refine jj_catchV h he (tX_content hl9 hC he9 hi hn) cv_L_25 (by decide) (by decide) rfl rfl (by decide) rfl rfl rfl (Nat.le_of_ble_eq_true rfl) d_L_content_5 [] (0, 10, 13, 13) [] rfl (fun _ z => absurd z List.not_mem_nil) ⟨by decide, by decide⟩ (by decide) xk_L_xN wx_38 (fun q m9 hm9 => ?_)
  subst hm9
  refine jj_astore h d_L_content_13 ⟨_, rfl⟩ (Nat.le_of_ble_eq_true rfl) rfl ?_
  refine jj_iconst h d_L_content_15 ?_
  exact jj_iretW h he (by decide) (by decide) d_L_content_16 ⟨rfl, rfl⟩
theorem cL_boundary0 {G : mt_G} {l : Launch} {mem : mt_M} {L : List mt_E} {e i : Int} (hC : RC mem L) (h0 : 0 ≤ e) (h1 : e < L.length) (hi : r32 i) (hB : (gE L e).1 0 ≠ 1 → (gE L e).2.2.2 = []) : CW G l y_L_boundary c_L_boundary 5 hh_L_boundary 8 [vr G 0, vi e, vi i, vr G 194] mem (fun v m' => v = some (vi 0) ∧ st_ mem 194 0 (i2l_ (bdS (gE L e) i)) = m') := by
  refine CW.intro (by decide) rfl (Nat.le_of_ble_eq_true rfl) (fun X hX h he => ?_)
  refine jj_aload_n h d_L_boundary_0 rfl ⟨_, rfl⟩ ?_
  refine jj_iconst h d_L_boundary_1 ?_
  refine jj_aload_n h d_L_boundary_2 rfl ⟨_, rfl⟩ ?_
  refine jj_iload_n h d_L_boundary_3 rfl ?_
  refine jj_iload_n h d_L_boundary_4 rfl ?_
  refine jj_callV h (cX_boundary hC h0 h1 hi hB) cv_L_28 (ro_oW he (by decide) (by decide)) rfl rfl (by decide) rfl rfl rfl (Nat.le_of_ble_eq_true rfl) d_L_boundary_5 (fun v m5 hv => ?_)
  obtain ⟨rfl, rfl⟩ := hv
  refine jj_i2l h d_L_boundary_8 ?_
  refine jj_lastore h d_L_boundary_9 ?_
  refine jj_goto h 17 d_L_boundary_10 (by decide) ?_
  refine jj_iconst h d_L_boundary_17 ?_
  exact jj_iretW h he (by decide) (by decide) d_L_boundary_18 ⟨rfl, rfl⟩
theorem cL_boundary1 {G : mt_G} {l : Launch} {mem : mt_M} {L : List mt_E} (hl : l.stackTraces = false) {e i : Int} (hC : RC mem L) (he9 : r32 e) (hn : ¬ (0 ≤ e ∧ e < L.length)) : CW G l y_L_boundary c_L_boundary 5 hh_L_boundary 8 [vr G 0, vi e, vi i, vr G 194] mem (fun v m' => v = some (vi 1) ∧ mem = m') := by
  refine CW.intro (by decide) rfl (Nat.le_of_ble_eq_true rfl) (fun X hX h he => ?_)
  have hl9 : X.2.1.stackTraces = false := by rw [hX]; exact hl
  refine jj_aload_n h d_L_boundary_0 rfl ⟨_, rfl⟩ ?_
  refine jj_iconst h d_L_boundary_1 ?_
  refine jj_aload_n h d_L_boundary_2 rfl ⟨_, rfl⟩ ?_
  refine jj_iload_n h d_L_boundary_3 rfl ?_
  refine jj_iload_n h d_L_boundary_4 rfl ?_
  refine jj_catchV h he (tX_boundary hl9 hC he9 hn) cv_L_28 (by decide) (by decide) rfl rfl (by decide) rfl rfl rfl (Nat.le_of_ble_eq_true rfl) d_L_boundary_5 [] (0, 10, 13, 13) [] rfl (fun _ z => absurd z List.not_mem_nil) ⟨by decide, by decide⟩ (by decide) xk_L_xN wx_38 (fun q m9 hm9 => ?_)
  subst hm9
  refine jj_astore h d_L_boundary_13 ⟨_, rfl⟩ (Nat.le_of_ble_eq_true rfl) rfl ?_
  refine jj_iconst h d_L_boundary_15 ?_
  exact jj_iretW h he (by decide) (by decide) d_L_boundary_16 ⟨rfl, rfl⟩
theorem cL_write0 {G : mt_G} {l : Launch} {mem : mt_M} {L : List mt_E} {W : List Int} (hC : RC mem L) (hkb : kb_ L) (hti : TI_ L) (hL1 : 1 ≤ L.length) (hW : wrT L = W) (hle : W.length ≤ 700) : CW G l y_L_write c_L_write 3 hh_L_write 16 [vr G 0, vr G 194] mem (fun v m' => v = some (vi 0) ∧ m' 194 0 = i2l_ (W.length : Int) ∧ m' 2 1 = W.length ∧ slc (m' 10) 0 W.length = W ∧ bw_ m' 2 ∧ ∀ r : Nat, r ≠ 2 → r ≠ 10 → r ≠ 8 → r ≠ 16 → r ≠ 194 → m' r = mem r) := by
  refine CW.intro (by decide) rfl (Nat.le_of_ble_eq_true rfl) (fun X hX h he => ?_)
  refine jj_aload_n h d_L_write_0 rfl ⟨_, rfl⟩ ?_
  refine jj_iconst h d_L_write_1 ?_
  refine jj_aload_n h d_L_write_2 rfl ⟨_, rfl⟩ ?_
  refine jj_callV h (cX_write hC hkb hti hL1 hW hle) cv_L_31 (ro_oW he (by decide) (by decide)) rfl rfl (by decide) rfl rfl rfl (Nat.le_of_ble_eq_true rfl) d_L_write_3 (fun v m3 hv => ?_)
  obtain ⟨rfl, p1, p2, p3, p4⟩ := hv
  refine jj_i2l h d_L_write_6 ?_
  refine jj_lastore h d_L_write_7 ?_
  refine jj_goto h 17 d_L_write_8 (by decide) ?_
  refine jj_iconst h d_L_write_17 ?_
  exact jj_iretW h he (by decide) (by decide) d_L_write_18 ⟨rfl, st_same, by rw [st_ne (by decide)]; exact p1, by rw [st_row (by decide)]; exact p2, p3.mov (st_row (by decide)) (st_row (by decide)), fun r a b c d e => by rw [st_row e]; exact p4 r a b c d⟩
theorem cL_write1 {G : mt_G} {l : Launch} {mem : mt_M} {L : List mt_E} (hl : l.stackTraces = false) (h0 : mem 17 7 = 0) : CW G l y_L_write c_L_write 3 hh_L_write 16 [vr G 0, vr G 194] mem (fun v m' => v = some (vi 1) ∧ ∀ r : Nat, r ≠ 8 → r ≠ 16 → m' r = mem r) := by
  refine CW.intro (by decide) rfl (Nat.le_of_ble_eq_true rfl) (fun X hX h he => ?_)
  have hl9 : X.2.1.stackTraces = false := by rw [hX]; exact hl
  refine jj_aload_n h d_L_write_0 rfl ⟨_, rfl⟩ ?_
  refine jj_iconst h d_L_write_1 ?_
  refine jj_aload_n h d_L_write_2 rfl ⟨_, rfl⟩ ?_
  refine jj_catchV h he (tX_write0 hl9 h0) cv_L_31 (by decide) (by decide) rfl rfl (by decide) rfl rfl rfl (Nat.le_of_ble_eq_true rfl) d_L_write_3 [] (0, 8, 11, 35) [(0, 8, 14, 37)] rfl (fun _ z => absurd z List.not_mem_nil) ⟨by decide, by decide⟩ (by decide) xk_L_xI wx_66 (fun q m9 hm9 => ?_)
  refine jj_astore_n h d_L_write_11 ⟨_, rfl⟩ (Nat.le_of_ble_eq_true rfl) rfl ?_
  refine jj_iconst h d_L_write_12 ?_
  exact jj_iretW h he (by decide) (by decide) d_L_write_13 ⟨rfl, hm9⟩
theorem cL_write2 {G : mt_G} {l : Launch} {mem : mt_M} {L : List mt_E} (hl : l.stackTraces = false) {W : List Int} (hC : RC mem L) (hkb : kb_ L) (hti : TI_ L) (hL1 : 1 ≤ L.length) (hW : wrT L = W) (hle : 700 < W.length) : CW G l y_L_write c_L_write 3 hh_L_write 16 [vr G 0, vr G 194] mem (fun v m' => v = some (vi 2) ∧ ∀ r : Nat, r ≠ 8 → r ≠ 16 → m' r = mem r) := by
  refine CW.intro (by decide) rfl (Nat.le_of_ble_eq_true rfl) (fun X hX h he => ?_)
  have hl9 : X.2.1.stackTraces = false := by rw [hX]; exact hl
  refine jj_aload_n h d_L_write_0 rfl ⟨_, rfl⟩ ?_
  refine jj_iconst h d_L_write_1 ?_
  refine jj_aload_n h d_L_write_2 rfl ⟨_, rfl⟩ ?_
  refine jj_catchV h he (tX_write2 hl9 hC hkb hti hL1 hW hle) cv_L_31 (by decide) (by decide) rfl rfl (by decide) rfl rfl rfl (Nat.le_of_ble_eq_true rfl) d_L_write_3 [(0, 8, 11, 35)] (0, 8, 14, 37) [] rfl (List.forall_mem_cons.mpr ⟨⟨by decide, xI, xk_L_xI, by decide +kernel⟩, fun _ z => absurd z List.not_mem_nil⟩) ⟨by decide, by decide⟩ (by decide) xk_L_xU wx_79 (fun q m9 hm9 => ?_)
  refine jj_astore_n h d_L_write_14 ⟨_, rfl⟩ (Nat.le_of_ble_eq_true rfl) rfl ?_
  refine jj_iconst h d_L_write_15 ?_
  exact jj_iretW h he (by decide) (by decide) d_L_write_16 ⟨rfl, hm9⟩
