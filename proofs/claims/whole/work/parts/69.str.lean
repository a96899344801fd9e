/-! The JDK's methods over literals. -/
section JJM
variable {G : mt_G} {X : mt_X} {cc : ByteArray} {own : String} {nL : Nat} {mem : mt_M} {pc : Nat} {lo : List (Option Value)} {st : List Value} {d idx : Nat} {ret : Option FieldType} {P : Option Value → mt_M → Prop}
theorem r32_ltI {a b : Int} (ha : r32 a) (hb : r32 b) : Int32.ofInt a < Int32.ofInt b ↔ a < b := by
  rw [Int32.lt_iff_toInt_lt, r32_to ha, r32_to hb]
theorem jj_mx (h : OK G X cc own nL) (he : OE G X ret d P) {a b : Int} (ha : r32 a) (hb : r32 b) (hd : 1 ≤ d) (hl : lo.length = nL) (hw : cO_ own idx y_H_max c_H_max 2 (some .int) 2) (hcat : (st.map fun v => v.category).sum ≤ 8) (dd : decode cc pc = .ok (.invokestatic idx, 3)) (kk : JJ G X 0 0 mem (pc + 3) lo (vi (max a b) :: st)) : JJ G X 0 0 mem pc lo (vi b :: vi a :: st) := by
  obtain ⟨p, l, e, R, s, m, args, below, meth, c, A, Q⟩ := X
  intro H locs ls hP hS hL
  obtain ⟨hx, hbc, hml, ho, hts, hK, hi9, hA, hN, hE⟩ := h
  obtain ⟨-, -, -, rfl⟩ := he
  have w := hw.1
  have e1 : vi (max a b) = .int (if Int32.ofInt a < Int32.ofInt b then Int32.ofInt b else Int32.ofInt a) := by
    by_cases q : a < b
    · rw [if_pos ((r32_ltI ha hb).mpr q), show max a b = b by omega]; rfl
    · rw [if_neg (fun z => q ((r32_ltI ha hb).mp z)), show max a b = a by omega]; rfl
  refine va_mmax hx hbc (by rw [hml, hL.1, hl]) ho (hts _ (w _ List.mem_cons_self)) (hts _ (w _ (List.mem_cons_of_mem _ List.mem_cons_self))) (hts _ (w _ (List.mem_cons_of_mem _ (List.mem_cons_of_mem _ List.mem_cons_self)))) (hts _ (w _ (List.mem_cons_of_mem _ (List.mem_cons_of_mem _ (List.mem_cons_of_mem _ List.mem_cons_self))))) hd (by show _ ≤ 64 * d; omega) (Nat.zero_le _) (Nat.zero_le _) dd ?_
  have q := kk H locs ls hP hS hL
  rw [e1] at q
  exact q
theorem jj_mn (h : OK G X cc own nL) (he : OE G X ret d P) {a b : Int} (ha : r32 a) (hb : r32 b) (hd : 1 ≤ d) (hl : lo.length = nL) (hw : cO_ own idx y_H_min c_H_min 2 (some .int) 2) (hcat : (st.map fun v => v.category).sum ≤ 8) (dd : decode cc pc = .ok (.invokestatic idx, 3)) (kk : JJ G X 0 0 mem (pc + 3) lo (vi (min a b) :: st)) : JJ G X 0 0 mem pc lo (vi b :: vi a :: st) := by
  obtain ⟨p, l, e, R, s, m, args, below, meth, c, A, Q⟩ := X
  intro H locs ls hP hS hL
  obtain ⟨hx, hbc, hml, ho, hts, hK, hi9, hA, hN, hE⟩ := h
  obtain ⟨-, -, -, rfl⟩ := he
  have w := hw.1
  have e1 : vi (min a b) = .int (if Int32.ofInt b < Int32.ofInt a then Int32.ofInt b else Int32.ofInt a) := by
    by_cases q : b < a
    · rw [if_pos ((r32_ltI hb ha).mpr q), show min a b = b by omega]; rfl
    · rw [if_neg (fun z => q ((r32_ltI hb ha).mp z)), show min a b = a by omega]; rfl
  refine va_mmin hx hbc (by rw [hml, hL.1, hl]) ho (hts _ (w _ List.mem_cons_self)) (hts _ (w _ (List.mem_cons_of_mem _ List.mem_cons_self))) (hts _ (w _ (List.mem_cons_of_mem _ (List.mem_cons_of_mem _ List.mem_cons_self)))) (hts _ (w _ (List.mem_cons_of_mem _ (List.mem_cons_of_mem _ (List.mem_cons_of_mem _ List.mem_cons_self))))) hd (by show _ ≤ 64 * d; omega) (Nat.zero_le _) (Nat.zero_le _) dd ?_
  have q := kk H locs ls hP hS hL
  rw [e1] at q
  exact q
end JJM
theorem cQ_coder {G : mt_G} {l : Launch} {mem : mt_M} {i : Nat} (hi : i < 23) : CT G l y_Q_coder c_Q_coder 1 (some .byte) 1 [vs G i] mem (fun v m' => v = some (vi 0) ∧ mem = m') := by
  refine CT.intro (by decide) rfl (Nat.le_of_ble_eq_true rfl) (fun X h he => ?_)
  refine jj_gZ h wf_Q_38 d_Q_coder_0 ?_
  refine jj_if_eq h 13 d_Q_coder_3 (by decide) ⟨by omega, by omega⟩ (fun q3 => absurd q3 (by omega)) (fun _ => ?_)
  refine jj_aload_n h d_Q_coder_6 rfl ⟨_, rfl⟩ ?_
  refine jj_gC h (by first | assumption | decide) wf_Q_15 d_Q_coder_7 ?_
  refine jj_goto h 14 d_Q_coder_10 (by decide) ?_
  refine jj_bret h he rfl d_Q_coder_14 ?_
  exact ⟨rfl, rfl⟩
theorem cQ_isLatin1 {G : mt_G} {l : Launch} {mem : mt_M} {i : Nat} (hi : i < 23) : CT G l y_Q_isLatin1 c_Q_isLatin1 1 (some .boolean) 1 [vs G i] mem (fun v m' => v = some (vi 1) ∧ mem = m') := by
  refine CT.intro (by decide) rfl (Nat.le_of_ble_eq_true rfl) (fun X h he => ?_)
  refine jj_gZ h wf_Q_38 d_Q_isLatin1_0 ?_
  refine jj_if_eq h 17 d_Q_isLatin1_3 (by decide) ⟨by omega, by omega⟩ (fun q3 => absurd q3 (by omega)) (fun _ => ?_)
  refine jj_aload_n h d_Q_isLatin1_6 rfl ⟨_, rfl⟩ ?_
  refine jj_gC h (by first | assumption | decide) wf_Q_15 d_Q_isLatin1_7 ?_
  refine jj_if_ne h 17 d_Q_isLatin1_10 (by decide) ⟨by omega, by omega⟩ (fun q10 => absurd (by omega) q10) (fun _ => ?_)
  refine jj_iconst h d_Q_isLatin1_13 ?_
  refine jj_goto h 18 d_Q_isLatin1_14 (by decide) ?_
  refine jj_zret h he (by omega) d_Q_isLatin1_18 ?_
  exact ⟨rfl, rfl⟩
theorem cQ_length {G : mt_G} {l : Launch} {mem : mt_M} {i : Nat} (hi : i < 23) : CT G l y_Q_length c_Q_length 1 (some .int) 2 [vs G i] mem (fun v m' => v = some (vi (tx_ i).length) ∧ mem = m') := by
  have hm := tx_max i hi
  have hs : ishr_ ((tx_ i).length : Int) 0 = (tx_ i).length := by
    rw [ishr_k 0 (P := 1) (by decide) (by decide) (by omega) (by omega)]; omega
  refine CT.intro (by decide) rfl (Nat.le_of_ble_eq_true rfl) (fun X h he => ?_)
  refine jj_aload_n h d_Q_length_0 rfl ⟨_, rfl⟩ ?_
  refine jj_gV h (by first | assumption | decide) wf_Q_9 d_Q_length_1 ?_
  refine jj_alS h hi d_Q_length_4 ?_
  refine jj_aload_n h d_Q_length_5 rfl ⟨_, rfl⟩ ?_
  refine jj_callK h (cQ_coder hi) cv_Q_335 (ro_of he (by first | decide | omega) (by decide)) rfl rfl (by first | assumption | decide) rfl rfl (Nat.le_of_ble_eq_true rfl) d_Q_length_6 (fun v m6 hv => ?_)
  obtain ⟨rfl, rfl⟩ := hv
  refine jj_ishr h d_Q_length_9 ?_
  rw [hs]
  refine jj_iret h he d_Q_length_10 ?_
  exact ⟨rfl, rfl⟩
theorem cK_checkIndex {G : mt_G} {l : Launch} {mem : mt_M} {a b : Int} {w : Value} (hw : w = .null ∨ ∃ t, w = .ref t) (h0 : 0 ≤ a) (h1 : a < b) (hb : b < 2147483648) : CT G l y_K_checkIndex c_K_checkIndex 3 (some .int) 1 [vi a, vi b, w] mem (fun v m' => v = some (vi a) ∧ mem = m') := by
  rcases hw with rfl | ⟨t, rfl⟩
  · refine CT.intro (by decide) rfl (Nat.le_of_ble_eq_true rfl) (fun X h he => ?_)
    refine jj_iload_n h d_K_checkIndex_0 rfl ?_
    refine jj_if_lt h 9 d_K_checkIndex_1 (by decide) ⟨by omega, by omega⟩ (fun q1 => absurd q1 (by omega)) (fun _ => ?_)
    refine jj_iload_n h d_K_checkIndex_4 rfl ?_
    refine jj_iload_n h d_K_checkIndex_5 rfl ?_
    refine jj_icmp_lt h 16 d_K_checkIndex_6 (by decide) ⟨by omega, by omega⟩ ⟨by omega, by omega⟩ (fun _ => ?_) (fun q6 => absurd (by omega) q6)
    refine jj_iload_n h d_K_checkIndex_16 rfl ?_
    refine jj_iret h he d_K_checkIndex_17 ?_
    exact ⟨rfl, rfl⟩
  · refine CT.intro (by decide) rfl (Nat.le_of_ble_eq_true rfl) (fun X h he => ?_)
    refine jj_iload_n h d_K_checkIndex_0 rfl ?_
    refine jj_if_lt h 9 d_K_checkIndex_1 (by decide) ⟨by omega, by omega⟩ (fun q1 => absurd q1 (by omega)) (fun _ => ?_)
    refine jj_iload_n h d_K_checkIndex_4 rfl ?_
    refine jj_iload_n h d_K_checkIndex_5 rfl ?_
    refine jj_icmp_lt h 16 d_K_checkIndex_6 (by decide) ⟨by omega, by omega⟩ ⟨by omega, by omega⟩ (fun _ => ?_) (fun q6 => absurd (by omega) q6)
    refine jj_iload_n h d_K_checkIndex_16 rfl ?_
    refine jj_iret h he d_K_checkIndex_17 ?_
    exact ⟨rfl, rfl⟩
theorem cQ_checkIndex {G : mt_G} {l : Launch} {mem : mt_M} {a b : Int} (h0 : 0 ≤ a) (h1 : a < b) (hb : b < 2147483648) : CT G l y_Q_checkIndex c_Q_checkIndex 2 none 2 [vi a, vi b] mem (fun v m' => v = none ∧ mem = m') := by
  refine CT.intro (by decide) rfl (Nat.le_of_ble_eq_true rfl) (fun X h he => ?_)
  refine jj_iload_n h d_Q_checkIndex_0 rfl ?_
  refine jj_iload_n h d_Q_checkIndex_1 rfl ?_
  refine jj_gF h wf_Q_1053 d_Q_checkIndex_2 (fun w hw => ?_)
  refine jj_callO h (cK_checkIndex hw h0 h1 hb) cv_Q_1059 (ro_of he (by first | decide | omega) (by decide)) rfl rfl rfl (Nat.le_of_ble_eq_true rfl) d_Q_checkIndex_5 (fun v m5 hv => ?_)
  obtain ⟨rfl, rfl⟩ := hv
  refine jj_pop h d_Q_checkIndex_8 rfl ?_
  refine jj_vret h he d_Q_checkIndex_9 ?_
  exact ⟨rfl, rfl⟩
theorem tx_get {i : Nat} (hi : i < 23) {z : Int} (h0 : 0 ≤ z) (h1 : z < (tx_ i).length) : 0 ≤ (tx_ i).getD z.toNat 0 ∧ (tx_ i).getD z.toNat 0 ≤ 127 := by
  refine tx_by i hi _ ?_
  rw [List.getD_eq_getElem?_getD, List.getElem?_eq_getElem (by omega)]
  exact List.getElem_mem _
theorem cJ_charAt {G : mt_G} {l : Launch} {mem : mt_M} {i : Nat} {z : Int} (hi : i < 23) (h0 : 0 ≤ z) (h1 : z < (tx_ i).length) : CT G l y_J_charAt c_J_charAt 2 (some .char) 3 [vb G i, vi z] mem (fun v m' => v = some (vi ((tx_ i).getD z.toNat 0)) ∧ mem = m') := by
  have hm := tx_max i hi
  have hg := tx_get hi h0 h1
  refine CT.intro (by decide) rfl (Nat.le_of_ble_eq_true rfl) (fun X h he => ?_)
  generalize hc : (tx_ i).getD z.toNat 0 = c at *
  have e1 : iand_ c 255 = c := by rw [iand_k 8 (P := 256) (by decide) (by decide) (by omega) (by omega)]; omega
  have e2 := i2c_z (z := c) (by omega) (by omega)
  have e3 : ∀ n : Nat, n < 128 → narrow .char (vi (n : Int)) = vi (n : Int) := by decide +kernel
  have e4 : narrow .char (vi c) = vi c := by
    have := e3 c.toNat (by omega)
    rw [Int.toNat_of_nonneg hg.1] at this
    exact this
  refine jj_iload_n h d_J_charAt_0 rfl ?_
  refine jj_aload_n h d_J_charAt_1 rfl ⟨_, rfl⟩ ?_
  refine jj_alS h hi d_J_charAt_2 ?_
  refine jj_callO h (cQ_checkIndex h0 h1 (by omega)) cv_J_9 (ro_of he (by first | decide | omega) (by decide)) rfl rfl rfl (Nat.le_of_ble_eq_true rfl) d_J_charAt_3 (fun v m3 hv => ?_)
  obtain ⟨rfl, rfl⟩ := hv
  refine jj_aload_n h d_J_charAt_6 rfl ⟨_, rfl⟩ ?_
  refine jj_iload_n h d_J_charAt_7 rfl ?_
  refine jj_bal h (by first | assumption | decide) (by omega) (by omega) d_J_charAt_8 ?_
  rw [hc]
  refine jj_sipush h d_J_charAt_9 (by decide) ?_
  refine jj_iand h d_J_charAt_12 ?_
  rw [e1]
  refine jj_i2c h d_J_charAt_13 ?_
  rw [e2]
  refine jj_cret h he e4 d_J_charAt_14 ?_
  exact ⟨rfl, rfl⟩
theorem cQ_charAt {G : mt_G} {l : Launch} {mem : mt_M} {i : Nat} {z : Int} (hi : i < 23) (h0 : 0 ≤ z) (h1 : z < (tx_ i).length) : CT G l y_Q_charAt c_Q_charAt 2 (some .char) 4 [vs G i, vi z] mem (fun v m' => v = some (vi ((tx_ i).getD z.toNat 0)) ∧ mem = m') := by
  have hg := tx_get hi h0 h1
  refine CT.intro (by decide) rfl (Nat.le_of_ble_eq_true rfl) (fun X h he => ?_)
  have e3 : ∀ n : Nat, n < 128 → narrow .char (vi (n : Int)) = vi (n : Int) := by decide +kernel
  have e4 : narrow .char (vi ((tx_ i).getD z.toNat 0)) = vi ((tx_ i).getD z.toNat 0) := by
    have := e3 ((tx_ i).getD z.toNat 0).toNat (by omega)
    rw [Int.toNat_of_nonneg hg.1] at this
    exact this
  refine jj_aload_n h d_Q_charAt_0 rfl ⟨_, rfl⟩ ?_
  refine jj_callK h (cQ_isLatin1 hi) cv_Q_492 (ro_of he (by first | decide | omega) (by decide)) rfl rfl (by first | assumption | decide) rfl rfl (Nat.le_of_ble_eq_true rfl) d_Q_charAt_1 (fun v m1 hv => ?_)
  obtain ⟨rfl, rfl⟩ := hv
  refine jj_if_eq h 16 d_Q_charAt_4 (by decide) ⟨by omega, by omega⟩ (fun q4 => absurd q4 (by omega)) (fun _ => ?_)
  refine jj_aload_n h d_Q_charAt_7 rfl ⟨_, rfl⟩ ?_
  refine jj_gV h (by first | assumption | decide) wf_Q_9 d_Q_charAt_8 ?_
  refine jj_iload_n h d_Q_charAt_11 rfl ?_
  refine jj_callO h (cJ_charAt hi h0 h1) cv_Q_495 (ro_of he (by first | decide | omega) (by decide)) rfl rfl rfl (Nat.le_of_ble_eq_true rfl) d_Q_charAt_12 (fun v m12 hv => ?_)
  obtain ⟨rfl, rfl⟩ := hv
  refine jj_cret h he e4 d_Q_charAt_15 ?_
  exact ⟨rfl, rfl⟩
theorem cJ_canEncode {G : mt_G} {l : Launch} {mem : mt_M} {c : Int} (h0 : 0 ≤ c) (h1 : c ≤ 255) : CT G l y_J_canEncode c_J_canEncode 1 (some .boolean) 1 [vi c] mem (fun v m' => v = some (vi 1) ∧ mem = m') := by
  refine CT.intro (by decide) rfl (Nat.le_of_ble_eq_true rfl) (fun X h he => ?_)
  refine jj_iload_n h d_J_canEncode_0 rfl ?_
  refine jj_if_lt h 15 d_J_canEncode_1 (by decide) ⟨by omega, by omega⟩ (fun q1 => absurd q1 (by omega)) (fun _ => ?_)
  refine jj_iload_n h d_J_canEncode_4 rfl ?_
  refine jj_sipush h d_J_canEncode_5 (by decide) ?_
  refine jj_icmp_gt h 15 d_J_canEncode_8 (by decide) ⟨by omega, by omega⟩ ⟨by omega, by omega⟩ (fun q8 => absurd q8 (by omega)) (fun _ => ?_)
  refine jj_iconst h d_J_canEncode_11 ?_
  refine jj_goto h 16 d_J_canEncode_12 (by decide) ?_
  refine jj_zret h he (by omega) d_J_canEncode_16 ?_
  exact ⟨rfl, rfl⟩
/-- the first place of c, or -1 -/
def ix_ (c : Int) : List Int → Int → Int
  | [], _ => -1
  | x :: t, k => if x = c then k else ix_ c t (k + 1)
theorem cJ_indexOfChar {G : mt_G} {l : Launch} {mem : mt_M} {i : Nat} {c : Int} (hi : i < 23) (h0 : 0 ≤ c) (h1 : c ≤ 255) : CT G l y_J_indexOfChar c_J_indexOfChar 6 (some .int) 1 [vb G i, vi c, vi 0, vi (tx_ i).length] mem (fun v m' => v = some (vi (ix_ (b8_ c) (tx_ i) 0)) ∧ mem = m') := by
  have hm := tx_max i hi
  have hb8 : -128 ≤ b8_ c ∧ b8_ c ≤ 127 := by unfold b8_; split <;> omega
  refine CT.intro (by decide) rfl (Nat.le_of_ble_eq_true rfl) (fun X h he => ?_)
  generalize hR : ix_ (b8_ c) (tx_ i) 0 = R at *
  have loop : ∀ (n k : Nat), (tx_ i).length - k = n → k ≤ (tx_ i).length → R = ix_ (b8_ c) ((tx_ i).drop k) k → JJ G X 0 0 mem 7 [some (vb G i), some (vi c), some (vi 0), some (vi (tx_ i).length), some (vi (b8_ c)), some (vi k)] [] := by
    intro n
    induction n with
    | zero =>
      intro k k1 k2 k3
      rw [List.drop_eq_nil_of_le (by omega)] at k3
      refine jj_iload h d_J_indexOfChar_7 rfl ?_
      refine jj_iload_n h d_J_indexOfChar_9 rfl ?_
      refine jj_icmp_ge h 31 d_J_indexOfChar_10 (by decide) ⟨by omega, by omega⟩ ⟨by omega, by omega⟩ (fun _ => ?_) (fun q10 => absurd (by omega) q10)
      refine jj_iconst h d_J_indexOfChar_31 ?_
      refine jj_iret h he d_J_indexOfChar_32 ?_
      exact ⟨by rw [k3]; rfl, rfl⟩
    | succ n ih =>
      intro k k1 k2 k3
      have hg := tx_get hi (z := k) (by omega) (by omega)
      have hd : (tx_ i).drop k = (tx_ i).getD k 0 :: (tx_ i).drop (k + 1) := by
        rw [List.drop_eq_getElem_cons (by omega), List.getD_eq_getElem?_getD, List.getElem?_eq_getElem (by omega)]; rfl
      have hg : 0 ≤ (tx_ i).getD k 0 ∧ (tx_ i).getD k 0 ≤ 127 := hg
      rw [hd, ix_] at k3
      refine jj_iload h d_J_indexOfChar_7 rfl ?_
      refine jj_iload_n h d_J_indexOfChar_9 rfl ?_
      refine jj_icmp_ge h 31 d_J_indexOfChar_10 (by decide) ⟨by omega, by omega⟩ ⟨by omega, by omega⟩ (fun q10 => absurd q10 (by omega)) (fun _ => ?_)
      refine jj_aload_n h d_J_indexOfChar_13 rfl ⟨_, rfl⟩ ?_
      refine jj_iload h d_J_indexOfChar_14 rfl ?_
      refine jj_bal h (by first | assumption | decide) (by omega) (by omega) d_J_indexOfChar_16 ?_
      rw [show ((k : Int)).toNat = k from rfl]
      refine jj_iload h d_J_indexOfChar_17 rfl ?_
      refine jj_icmp_ne h 25 d_J_indexOfChar_19 (by decide) ⟨by omega, by omega⟩ ⟨by omega, by omega⟩ (fun q19 => ?_) (fun q19 => ?_)
      · rw [if_neg q19] at k3
        refine jj_iinc h d_J_indexOfChar_25 rfl rfl ?_
        refine jj_goto h 7 d_J_indexOfChar_28 (by decide) ?_
        exact ih (k + 1) (by omega) (by omega) k3
      · rw [if_pos q19] at k3
        refine jj_iload h d_J_indexOfChar_22 rfl ?_
        refine jj_iret h he d_J_indexOfChar_24 ?_
        exact ⟨by rw [k3], rfl⟩
  refine jj_iload_n h d_J_indexOfChar_0 rfl ?_
  refine jj_i2b h (by omega) (by omega) d_J_indexOfChar_1 ?_
  refine jj_istore h d_J_indexOfChar_2 (Nat.le_of_ble_eq_true rfl) rfl ?_
  refine jj_iload_n h d_J_indexOfChar_4 rfl ?_
  refine jj_istore h d_J_indexOfChar_5 (Nat.le_of_ble_eq_true rfl) rfl ?_
  exact loop _ 0 rfl (Nat.zero_le _) hR.symm
theorem cJ_indexOf {G : mt_G} {l : Launch} {mem : mt_M} {i : Nat} {c : Int} (hi : i < 23) (hp : 0 < (tx_ i).length) (h0 : 0 ≤ c) (h1 : c ≤ 255) : CT G l y_J_indexOf c_J_indexOf 4 (some .int) 2 [vb G i, vi c, vi 0, vi (tx_ i).length] mem (fun v m' => v = some (vi (ix_ (b8_ c) (tx_ i) 0)) ∧ mem = m') := by
  have hm := tx_max i hi
  refine CT.intro (by decide) rfl (Nat.le_of_ble_eq_true rfl) (fun X h he => ?_)
  refine jj_iload_n h d_J_indexOf_0 rfl ?_
  refine jj_callO h (cJ_canEncode h0 h1) cv_J_88 (ro_of he (by first | decide | omega) (by decide)) rfl rfl rfl (Nat.le_of_ble_eq_true rfl) d_J_indexOf_1 (fun v m1 hv => ?_)
  obtain ⟨rfl, rfl⟩ := hv
  refine jj_if_ne h 9 d_J_indexOf_4 (by decide) ⟨by omega, by omega⟩ (fun _ => ?_) (fun q4 => absurd q4 (by omega))
  refine jj_iload_n h d_J_indexOf_9 rfl ?_
  refine jj_iconst h d_J_indexOf_10 ?_
  refine jj_mx h he ⟨by decide, by decide⟩ ⟨by decide, by decide⟩ (by omega) rfl cv_J_92 (Nat.le_of_ble_eq_true rfl) d_J_indexOf_11 ?_
  rw [show max (0 : Int) 0 = 0 from rfl]
  refine jj_istore_n h d_J_indexOf_14 (Nat.le_of_ble_eq_true rfl) rfl ?_
  refine jj_iload_n h d_J_indexOf_15 rfl ?_
  refine jj_aload_n h d_J_indexOf_16 rfl ⟨_, rfl⟩ ?_
  refine jj_alS h hi d_J_indexOf_17 ?_
  refine jj_mn h he ⟨by omega, by omega⟩ ⟨by omega, by omega⟩ (by omega) rfl cv_J_38 (Nat.le_of_ble_eq_true rfl) d_J_indexOf_18 ?_
  rw [show min ((tx_ i).length : Int) ((tx_ i).length : Int) = (tx_ i).length by omega]
  refine jj_istore_n h d_J_indexOf_21 (Nat.le_of_ble_eq_true rfl) rfl ?_
  refine jj_iload_n h d_J_indexOf_22 rfl ?_
  refine jj_iload_n h d_J_indexOf_23 rfl ?_
  refine jj_icmp_lt h 29 d_J_indexOf_24 (by decide) ⟨by omega, by omega⟩ ⟨by omega, by omega⟩ (fun _ => ?_) (fun q24 => absurd (by omega) q24)
  refine jj_aload_n h d_J_indexOf_29 rfl ⟨_, rfl⟩ ?_
  refine jj_iload_n h d_J_indexOf_30 rfl ?_
  refine jj_iload_n h d_J_indexOf_31 rfl ?_
  refine jj_iload_n h d_J_indexOf_32 rfl ?_
  refine jj_callO h (cJ_indexOfChar hi h0 h1) cv_J_95 (ro_of he (by first | decide | omega) (by decide)) rfl rfl rfl (Nat.le_of_ble_eq_true rfl) d_J_indexOf_33 (fun v m33 hv => ?_)
  obtain ⟨rfl, rfl⟩ := hv
  refine jj_iret h he d_J_indexOf_36 ?_
  exact ⟨rfl, rfl⟩
theorem cQ_indexOf2 {G : mt_G} {l : Launch} {mem : mt_M} {i : Nat} {c : Int} (hi : i < 23) (hp : 0 < (tx_ i).length) (h0 : 0 ≤ c) (h1 : c ≤ 255) : CT G l y_Q_indexOf2 c_Q_indexOf2 3 (some .int) 3 [vs G i, vi c, vi 0] mem (fun v m' => v = some (vi (ix_ (b8_ c) (tx_ i) 0)) ∧ mem = m') := by
  refine CT.intro (by decide) rfl (Nat.le_of_ble_eq_true rfl) (fun X h he => ?_)
  refine jj_aload_n h d_Q_indexOf2_0 rfl ⟨_, rfl⟩ ?_
  refine jj_callK h (cQ_isLatin1 hi) cv_Q_492 (ro_of he (by first | decide | omega) (by decide)) rfl rfl (by first | assumption | decide) rfl rfl (Nat.le_of_ble_eq_true rfl) d_Q_indexOf2_1 (fun v m1 hv => ?_)
  obtain ⟨rfl, rfl⟩ := hv
  refine jj_if_eq h 23 d_Q_indexOf2_4 (by decide) ⟨by omega, by omega⟩ (fun q4 => absurd q4 (by omega)) (fun _ => ?_)
  refine jj_aload_n h d_Q_indexOf2_7 rfl ⟨_, rfl⟩ ?_
  refine jj_gV h (by first | assumption | decide) wf_Q_9 d_Q_indexOf2_8 ?_
  refine jj_iload_n h d_Q_indexOf2_11 rfl ?_
  refine jj_iload_n h d_Q_indexOf2_12 rfl ?_
  refine jj_aload_n h d_Q_indexOf2_13 rfl ⟨_, rfl⟩ ?_
  refine jj_callK h (cQ_length hi) cv_Q_505 (ro_of he (by first | decide | omega) (by decide)) rfl rfl (by first | assumption | decide) rfl rfl (Nat.le_of_ble_eq_true rfl) d_Q_indexOf2_14 (fun v m14 hv => ?_)
  obtain ⟨rfl, rfl⟩ := hv
  refine jj_callO h (cJ_indexOf hi hp h0 h1) cv_Q_637 (ro_of he (by first | decide | omega) (by decide)) rfl rfl rfl (Nat.le_of_ble_eq_true rfl) d_Q_indexOf2_17 (fun v m17 hv => ?_)
  obtain ⟨rfl, rfl⟩ := hv
  refine jj_goto h 36 d_Q_indexOf2_20 (by decide) ?_
  refine jj_iret h he d_Q_indexOf2_36 ?_
  exact ⟨rfl, rfl⟩
theorem cQ_indexOf1 {G : mt_G} {l : Launch} {mem : mt_M} {i : Nat} {c : Int} (hi : i < 23) (hp : 0 < (tx_ i).length) (h0 : 0 ≤ c) (h1 : c ≤ 255) : CT G l y_Q_indexOf1 c_Q_indexOf1 2 (some .int) 4 [vs G i, vi c] mem (fun v m' => v = some (vi (ix_ (b8_ c) (tx_ i) 0)) ∧ mem = m') := by
  refine CT.intro (by decide) rfl (Nat.le_of_ble_eq_true rfl) (fun X h he => ?_)
  refine jj_aload_n h d_Q_indexOf1_0 rfl ⟨_, rfl⟩ ?_
  refine jj_iload_n h d_Q_indexOf1_1 rfl ?_
  refine jj_iconst h d_Q_indexOf1_2 ?_
  refine jj_callK h (cQ_indexOf2 hi hp h0 h1) cv_Q_633 (ro_of he (by first | decide | omega) (by decide)) rfl rfl (by first | assumption | decide) rfl rfl (Nat.le_of_ble_eq_true rfl) d_Q_indexOf1_3 (fun v m3 hv => ?_)
  obtain ⟨rfl, rfl⟩ := hv
  refine jj_iret h he d_Q_indexOf1_6 ?_
  exact ⟨rfl, rfl⟩
