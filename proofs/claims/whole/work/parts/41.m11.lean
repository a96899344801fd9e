/-! The reference: contents out of base64. -/
/-- m is mem with the list l behind its text -/
def ap_ (mem : mt_M) (l : List Int) (m : mt_M) : Prop := m 182 9 = mem 182 9 + l.length ∧ slc (m 187) (mem 182 9) (m 182 9) = l ∧ ∀ (r : Nat) (z : Int), (r ≠ 187 ∨ z < mem 182 9) → (r ≠ 182 ∨ z ≠ 9) → m r z = mem r z
theorem ap_.rf {mem : mt_M} : ap_ mem [] mem := ⟨by simp, slc_nil (Int.le_refl _), fun _ _ _ _ => rfl⟩
theorem ap_.k1 {mem m : mt_M} {l : List Int} (h : ap_ mem l m) (c : Int) : ap_ mem (l ++ [c]) (k1 m c) := by
  obtain ⟨h1, h2, h3⟩ := h
  refine ⟨by rw [k1_at, if_pos (by decide), h1, List.length_append]; simp only [List.length_cons, List.length_nil]; omega, ?_, fun r z p q => ?_⟩
  · rw [k1_at _ _ 182, if_pos (by decide)]; exact k1_slc (by omega) h2
  · rw [k1_at, if_neg (by rintro ⟨rfl, rfl⟩; rcases q with q | q; exact q rfl; exact q rfl), if_neg (by rintro ⟨rfl, rfl⟩; rcases p with p | p; exact p rfl; omega)]
    exact h3 r z p q
theorem ap_.by {mem m : mt_M} {l : List Int} (h : ap_ mem l m) (h0 : 0 ≤ mem 182 9) (hb : by_ (mem 187) 0 (mem 182 9)) (hl : ∀ c ∈ l, 0 ≤ c ∧ c ≤ 255) : by_ (m 187) 0 (m 182 9) := by
  intro i i0 i1
  by_cases hi : i < mem 182 9
  · rw [h.2.2 _ _ (Or.inr hi) (Or.inl (by decide))]; exact hb i i0 hi
  · refine hl _ ?_
    rw [← h.2.1]
    have := slc_get (f := m 187) (p := mem 182 9) (e := m 182 9) (i := i - mem 182 9) (by omega) (by omega)
    rw [show mem 182 9 + (i - mem 182 9) = i by omega] at this
    exact List.mem_of_getElem? this
theorem ap_.row {mem m : mt_M} {l : List Int} (h : ap_ mem l m) {r : Nat} (h1 : r ≠ 187) (h2 : r ≠ 182) : m r = mem r := by funext z; exact h.2.2 r z (Or.inl h1) (Or.inl h2)
/-- the value of a letter of base64, or -1 -/
def ltv (c : Int) : Int := if 65 ≤ c ∧ c ≤ 90 then c - 65 else if 97 ≤ c ∧ c ≤ 122 then c - 71 else if 48 ≤ c ∧ c ≤ 57 then c + 4 else if c = 43 then 62 else if c = 47 then 63 else -1
theorem ltv_b (c : Int) : -1 ≤ ltv c ∧ ltv c ≤ 63 := by unfold ltv; split; omega; split; omega; split; omega; split; omega; split <;> omega
theorem cM_letter1 {G : mt_G} {l : Launch} {mem : mt_M} {c : Int} (hc : r32 c) : CT G l y_M_letter1 c_M_letter1 1 (some .int) 1 [vi c] mem (fun v m' => v = some (vi (ltv c)) ∧ mem = m') := by
  obtain ⟨hc1, hc2⟩ := hc
  refine CT.intro (by decide) rfl (Nat.le_of_ble_eq_true rfl) (fun X h he => ?_)
  refine jj_iload_n h d_M_letter1_0 rfl ?_
  refine jj_bipush h d_M_letter1_1 (by decide) ?_
  refine jj_icmp_lt h 17 d_M_letter1_3 (by decide) ⟨by omega, by omega⟩ ⟨by omega, by omega⟩ (fun q3 => ?_) (fun q3 => ?_)
  · refine jj_iload_n h d_M_letter1_17 rfl ?_
    refine jj_bipush h d_M_letter1_18 (by decide) ?_
    refine jj_icmp_lt h 34 d_M_letter1_20 (by decide) ⟨by omega, by omega⟩ ⟨by omega, by omega⟩ (fun q20 => ?_) (fun q20 => ?_)
    · refine jj_iload_n h d_M_letter1_34 rfl ?_
      refine jj_bipush h d_M_letter1_35 (by decide) ?_
      refine jj_icmp_lt h 50 d_M_letter1_37 (by decide) ⟨by omega, by omega⟩ ⟨by omega, by omega⟩ (fun q37 => ?_) (fun q37 => ?_)
      · refine jj_iload_n h d_M_letter1_50 rfl ?_
        refine jj_bipush h d_M_letter1_51 (by decide) ?_
        refine jj_icmp_ne h 61 d_M_letter1_53 (by decide) ⟨by omega, by omega⟩ ⟨by omega, by omega⟩ (fun q53 => ?_) (fun q53 => ?_)
        · refine jj_iload_n h d_M_letter1_61 rfl ?_
          refine jj_bipush h d_M_letter1_62 (by decide) ?_
          refine jj_icmp_ne h 72 d_M_letter1_64 (by decide) ⟨by omega, by omega⟩ ⟨by omega, by omega⟩ (fun q64 => ?_) (fun q64 => ?_)
          · refine jj_iconst h d_M_letter1_72 ?_
            refine jj_iret h he d_M_letter1_73 ?_
            refine ⟨?_, rfl⟩
            congr 2
            unfold ltv
            first | (rw [if_pos (by omega)]; done) | (rw [if_neg (by omega), if_pos (by omega)]; done) | (rw [if_neg (by omega), if_neg (by omega), if_pos (by omega)]; done) | (rw [if_neg (by omega), if_neg (by omega), if_neg (by omega), if_pos (by omega)]; done) | (rw [if_neg (by omega), if_neg (by omega), if_neg (by omega), if_neg (by omega), if_pos (by omega)]; done) | (rw [if_neg (by omega), if_neg (by omega), if_neg (by omega), if_neg (by omega), if_neg (by omega)]; done)
          · refine jj_bipush h d_M_letter1_67 (by decide) ?_
            refine jj_goto h 73 d_M_letter1_69 (by decide) ?_
            refine jj_iret h he d_M_letter1_73 ?_
            refine ⟨?_, rfl⟩
            congr 2
            unfold ltv
            first | (rw [if_pos (by omega)]; done) | (rw [if_neg (by omega), if_pos (by omega)]; done) | (rw [if_neg (by omega), if_neg (by omega), if_pos (by omega)]; done) | (rw [if_neg (by omega), if_neg (by omega), if_neg (by omega), if_pos (by omega)]; done) | (rw [if_neg (by omega), if_neg (by omega), if_neg (by omega), if_neg (by omega), if_pos (by omega)]; done) | (rw [if_neg (by omega), if_neg (by omega), if_neg (by omega), if_neg (by omega), if_neg (by omega)]; done)
        · refine jj_bipush h d_M_letter1_56 (by decide) ?_
          refine jj_goto h 73 d_M_letter1_58 (by decide) ?_
          refine jj_iret h he d_M_letter1_73 ?_
          refine ⟨?_, rfl⟩
          congr 2
          unfold ltv
          first | (rw [if_pos (by omega)]; done) | (rw [if_neg (by omega), if_pos (by omega)]; done) | (rw [if_neg (by omega), if_neg (by omega), if_pos (by omega)]; done) | (rw [if_neg (by omega), if_neg (by omega), if_neg (by omega), if_pos (by omega)]; done) | (rw [if_neg (by omega), if_neg (by omega), if_neg (by omega), if_neg (by omega), if_pos (by omega)]; done) | (rw [if_neg (by omega), if_neg (by omega), if_neg (by omega), if_neg (by omega), if_neg (by omega)]; done)
      · refine jj_iload_n h d_M_letter1_40 rfl ?_
        refine jj_bipush h d_M_letter1_41 (by decide) ?_
        refine jj_icmp_gt h 50 d_M_letter1_43 (by decide) ⟨by omega, by omega⟩ ⟨by omega, by omega⟩ (fun q43 => ?_) (fun q43 => ?_)
        · refine jj_iload_n h d_M_letter1_50 rfl ?_
          refine jj_bipush h d_M_letter1_51 (by decide) ?_
          refine jj_icmp_ne h 61 d_M_letter1_53 (by decide) ⟨by omega, by omega⟩ ⟨by omega, by omega⟩ (fun q53 => ?_) (fun q53 => ?_)
          · refine jj_iload_n h d_M_letter1_61 rfl ?_
            refine jj_bipush h d_M_letter1_62 (by decide) ?_
            refine jj_icmp_ne h 72 d_M_letter1_64 (by decide) ⟨by omega, by omega⟩ ⟨by omega, by omega⟩ (fun q64 => ?_) (fun q64 => ?_)
            · refine jj_iconst h d_M_letter1_72 ?_
              refine jj_iret h he d_M_letter1_73 ?_
              refine ⟨?_, rfl⟩
              congr 2
              unfold ltv
              first | (rw [if_pos (by omega)]; done) | (rw [if_neg (by omega), if_pos (by omega)]; done) | (rw [if_neg (by omega), if_neg (by omega), if_pos (by omega)]; done) | (rw [if_neg (by omega), if_neg (by omega), if_neg (by omega), if_pos (by omega)]; done) | (rw [if_neg (by omega), if_neg (by omega), if_neg (by omega), if_neg (by omega), if_pos (by omega)]; done) | (rw [if_neg (by omega), if_neg (by omega), if_neg (by omega), if_neg (by omega), if_neg (by omega)]; done)
            · refine jj_bipush h d_M_letter1_67 (by decide) ?_
              refine jj_goto h 73 d_M_letter1_69 (by decide) ?_
              refine jj_iret h he d_M_letter1_73 ?_
              refine ⟨?_, rfl⟩
              congr 2
              unfold ltv
              first | (rw [if_pos (by omega)]; done) | (rw [if_neg (by omega), if_pos (by omega)]; done) | (rw [if_neg (by omega), if_neg (by omega), if_pos (by omega)]; done) | (rw [if_neg (by omega), if_neg (by omega), if_neg (by omega), if_pos (by omega)]; done) | (rw [if_neg (by omega), if_neg (by omega), if_neg (by omega), if_neg (by omega), if_pos (by omega)]; done) | (rw [if_neg (by omega), if_neg (by omega), if_neg (by omega), if_neg (by omega), if_neg (by omega)]; done)
          · refine jj_bipush h d_M_letter1_56 (by decide) ?_
            refine jj_goto h 73 d_M_letter1_58 (by decide) ?_
            refine jj_iret h he d_M_letter1_73 ?_
            refine ⟨?_, rfl⟩
            congr 2
            unfold ltv
            first | (rw [if_pos (by omega)]; done) | (rw [if_neg (by omega), if_pos (by omega)]; done) | (rw [if_neg (by omega), if_neg (by omega), if_pos (by omega)]; done) | (rw [if_neg (by omega), if_neg (by omega), if_neg (by omega), if_pos (by omega)]; done) | (rw [if_neg (by omega), if_neg (by omega), if_neg (by omega), if_neg (by omega), if_pos (by omega)]; done) | (rw [if_neg (by omega), if_neg (by omega), if_neg (by omega), if_neg (by omega), if_neg (by omega)]; done)
        · refine jj_iload_n h d_M_letter1_46 rfl ?_
          refine jj_iconst h d_M_letter1_47 ?_
          refine jj_iadd h d_M_letter1_48 ?_
          refine jj_iret h he d_M_letter1_49 ?_
          refine ⟨?_, rfl⟩
          congr 2
          unfold ltv
          first | (rw [if_pos (by omega)]; done) | (rw [if_neg (by omega), if_pos (by omega)]; done) | (rw [if_neg (by omega), if_neg (by omega), if_pos (by omega)]; done) | (rw [if_neg (by omega), if_neg (by omega), if_neg (by omega), if_pos (by omega)]; done) | (rw [if_neg (by omega), if_neg (by omega), if_neg (by omega), if_neg (by omega), if_pos (by omega)]; done) | (rw [if_neg (by omega), if_neg (by omega), if_neg (by omega), if_neg (by omega), if_neg (by omega)]; done)
    · refine jj_iload_n h d_M_letter1_23 rfl ?_
      refine jj_bipush h d_M_letter1_24 (by decide) ?_
      refine jj_icmp_gt h 34 d_M_letter1_26 (by decide) ⟨by omega, by omega⟩ ⟨by omega, by omega⟩ (fun q26 => ?_) (fun q26 => ?_)
      · refine jj_iload_n h d_M_letter1_34 rfl ?_
        refine jj_bipush h d_M_letter1_35 (by decide) ?_
        refine jj_icmp_lt h 50 d_M_letter1_37 (by decide) ⟨by omega, by omega⟩ ⟨by omega, by omega⟩ (fun q37 => ?_) (fun q37 => ?_)
        · refine jj_iload_n h d_M_letter1_50 rfl ?_
          refine jj_bipush h d_M_letter1_51 (by decide) ?_
          refine jj_icmp_ne h 61 d_M_letter1_53 (by decide) ⟨by omega, by omega⟩ ⟨by omega, by omega⟩ (fun q53 => ?_) (fun q53 => ?_)
          · refine jj_iload_n h d_M_letter1_61 rfl ?_
            refine jj_bipush h d_M_letter1_62 (by decide) ?_
            refine jj_icmp_ne h 72 d_M_letter1_64 (by decide) ⟨by omega, by omega⟩ ⟨by omega, by omega⟩ (fun q64 => ?_) (fun q64 => ?_)
            · refine jj_iconst h d_M_letter1_72 ?_
              refine jj_iret h he d_M_letter1_73 ?_
              refine ⟨?_, rfl⟩
              congr 2
              unfold ltv
              first | (rw [if_pos (by omega)]; done) | (rw [if_neg (by omega), if_pos (by omega)]; done) | (rw [if_neg (by omega), if_neg (by omega), if_pos (by omega)]; done) | (rw [if_neg (by omega), if_neg (by omega), if_neg (by omega), if_pos (by omega)]; done) | (rw [if_neg (by omega), if_neg (by omega), if_neg (by omega), if_neg (by omega), if_pos (by omega)]; done) | (rw [if_neg (by omega), if_neg (by omega), if_neg (by omega), if_neg (by omega), if_neg (by omega)]; done)
            · refine jj_bipush h d_M_letter1_67 (by decide) ?_
              refine jj_goto h 73 d_M_letter1_69 (by decide) ?_
              refine jj_iret h he d_M_letter1_73 ?_
              refine ⟨?_, rfl⟩
              congr 2
              unfold ltv
              first | (rw [if_pos (by omega)]; done) | (rw [if_neg (by omega), if_pos (by omega)]; done) | (rw [if_neg (by omega), if_neg (by omega), if_pos (by omega)]; done) | (rw [if_neg (by omega), if_neg (by omega), if_neg (by omega), if_pos (by omega)]; done) | (rw [if_neg (by omega), if_neg (by omega), if_neg (by omega), if_neg (by omega), if_pos (by omega)]; done) | (rw [if_neg (by omega), if_neg (by omega), if_neg (by omega), if_neg (by omega), if_neg (by omega)]; done)
          · refine jj_bipush h d_M_letter1_56 (by decide) ?_
            refine jj_goto h 73 d_M_letter1_58 (by decide) ?_
            refine jj_iret h he d_M_letter1_73 ?_
            refine ⟨?_, rfl⟩
            congr 2
            unfold ltv
            first | (rw [if_pos (by omega)]; done) | (rw [if_neg (by omega), if_pos (by omega)]; done) | (rw [if_neg (by omega), if_neg (by omega), if_pos (by omega)]; done) | (rw [if_neg (by omega), if_neg (by omega), if_neg (by omega), if_pos (by omega)]; done) | (rw [if_neg (by omega), if_neg (by omega), if_neg (by omega), if_neg (by omega), if_pos (by omega)]; done) | (rw [if_neg (by omega), if_neg (by omega), if_neg (by omega), if_neg (by omega), if_neg (by omega)]; done)
        · refine jj_iload_n h d_M_letter1_40 rfl ?_
          refine jj_bipush h d_M_letter1_41 (by decide) ?_
          refine jj_icmp_gt h 50 d_M_letter1_43 (by decide) ⟨by omega, by omega⟩ ⟨by omega, by omega⟩ (fun q43 => ?_) (fun q43 => ?_)
          · refine jj_iload_n h d_M_letter1_50 rfl ?_
            refine jj_bipush h d_M_letter1_51 (by decide) ?_
            refine jj_icmp_ne h 61 d_M_letter1_53 (by decide) ⟨by omega, by omega⟩ ⟨by omega, by omega⟩ (fun q53 => ?_) (fun q53 => ?_)
            · refine jj_iload_n h d_M_letter1_61 rfl ?_
              refine jj_bipush h d_M_letter1_62 (by decide) ?_
              refine jj_icmp_ne h 72 d_M_letter1_64 (by decide) ⟨by omega, by omega⟩ ⟨by omega, by omega⟩ (fun q64 => ?_) (fun q64 => ?_)
              · refine jj_iconst h d_M_letter1_72 ?_
                refine jj_iret h he d_M_letter1_73 ?_
                refine ⟨?_, rfl⟩
                congr 2
                unfold ltv
                first | (rw [if_pos (by omega)]; done) | (rw [if_neg (by omega), if_pos (by omega)]; done) | (rw [if_neg (by omega), if_neg (by omega), if_pos (by omega)]; done) | (rw [if_neg (by omega), if_neg (by omega), if_neg (by omega), if_pos (by omega)]; done) | (rw [if_neg (by omega), if_neg (by omega), if_neg (by omega), if_neg (by omega), if_pos (by omega)]; done) | (rw [if_neg (by omega), if_neg (by omega), if_neg (by omega), if_neg (by omega), if_neg (by omega)]; done)
              · refine jj_bipush h d_M_letter1_67 (by decide) ?_
                refine jj_goto h 73 d_M_letter1_69 (by decide) ?_
                refine jj_iret h he d_M_letter1_73 ?_
                refine ⟨?_, rfl⟩
                congr 2
                unfold ltv
                first | (rw [if_pos (by omega)]; done) | (rw [if_neg (by omega), if_pos (by omega)]; done) | (rw [if_neg (by omega), if_neg (by omega), if_pos (by omega)]; done) | (rw [if_neg (by omega), if_neg (by omega), if_neg (by omega), if_pos (by omega)]; done) | (rw [if_neg (by omega), if_neg (by omega), if_neg (by omega), if_neg (by omega), if_pos (by omega)]; done) | (rw [if_neg (by omega), if_neg (by omega), if_neg (by omega), if_neg (by omega), if_neg (by omega)]; done)
            · refine jj_bipush h d_M_letter1_56 (by decide) ?_
              refine jj_goto h 73 d_M_letter1_58 (by decide) ?_
              refine jj_iret h he d_M_letter1_73 ?_
              refine ⟨?_, rfl⟩
              congr 2
              unfold ltv
              first | (rw [if_pos (by omega)]; done) | (rw [if_neg (by omega), if_pos (by omega)]; done) | (rw [if_neg (by omega), if_neg (by omega), if_pos (by omega)]; done) | (rw [if_neg (by omega), if_neg (by omega), if_neg (by omega), if_pos (by omega)]; done) | (rw [if_neg (by omega), if_neg (by omega), if_neg (by omega), if_neg (by omega), if_pos (by omega)]; done) | (rw [if_neg (by omega), if_neg (by omega), if_neg (by omega), if_neg (by omega), if_neg (by omega)]; done)
          · refine jj_iload_n h d_M_letter1_46 rfl ?_
            refine jj_iconst h d_M_letter1_47 ?_
            refine jj_iadd h d_M_letter1_48 ?_
            refine jj_iret h he d_M_letter1_49 ?_
            refine ⟨?_, rfl⟩
            congr 2
            unfold ltv
            first | (rw [if_pos (by omega)]; done) | (rw [if_neg (by omega), if_pos (by omega)]; done) | (rw [if_neg (by omega), if_neg (by omega), if_pos (by omega)]; done) | (rw [if_neg (by omega), if_neg (by omega), if_neg (by omega), if_pos (by omega)]; done) | (rw [if_neg (by omega), if_neg (by omega), if_neg (by omega), if_neg (by omega), if_pos (by omega)]; done) | (rw [if_neg (by omega), if_neg (by omega), if_neg (by omega), if_neg (by omega), if_neg (by omega)]; done)
      · refine jj_iload_n h d_M_letter1_29 rfl ?_
        refine jj_bipush h d_M_letter1_30 (by decide) ?_
        refine jj_isub h d_M_letter1_32 ?_
        refine jj_iret h he d_M_letter1_33 ?_
        refine ⟨?_, rfl⟩
        congr 2
        unfold ltv
        first | (rw [if_pos (by omega)]; done) | (rw [if_neg (by omega), if_pos (by omega)]; done) | (rw [if_neg (by omega), if_neg (by omega), if_pos (by omega)]; done) | (rw [if_neg (by omega), if_neg (by omega), if_neg (by omega), if_pos (by omega)]; done) | (rw [if_neg (by omega), if_neg (by omega), if_neg (by omega), if_neg (by omega), if_pos (by omega)]; done) | (rw [if_neg (by omega), if_neg (by omega), if_neg (by omega), if_neg (by omega), if_neg (by omega)]; done)
  · refine jj_iload_n h d_M_letter1_6 rfl ?_
    refine jj_bipush h d_M_letter1_7 (by decide) ?_
    refine jj_icmp_gt h 17 d_M_letter1_9 (by decide) ⟨by omega, by omega⟩ ⟨by omega, by omega⟩ (fun q9 => ?_) (fun q9 => ?_)
    · refine jj_iload_n h d_M_letter1_17 rfl ?_
      refine jj_bipush h d_M_letter1_18 (by decide) ?_
      refine jj_icmp_lt h 34 d_M_letter1_20 (by decide) ⟨by omega, by omega⟩ ⟨by omega, by omega⟩ (fun q20 => ?_) (fun q20 => ?_)
      · refine jj_iload_n h d_M_letter1_34 rfl ?_
        refine jj_bipush h d_M_letter1_35 (by decide) ?_
        refine jj_icmp_lt h 50 d_M_letter1_37 (by decide) ⟨by omega, by omega⟩ ⟨by omega, by omega⟩ (fun q37 => ?_) (fun q37 => ?_)
        · refine jj_iload_n h d_M_letter1_50 rfl ?_
          refine jj_bipush h d_M_letter1_51 (by decide) ?_
          refine jj_icmp_ne h 61 d_M_letter1_53 (by decide) ⟨by omega, by omega⟩ ⟨by omega, by omega⟩ (fun q53 => ?_) (fun q53 => ?_)
          · refine jj_iload_n h d_M_letter1_61 rfl ?_
            refine jj_bipush h d_M_letter1_62 (by decide) ?_
            refine jj_icmp_ne h 72 d_M_letter1_64 (by decide) ⟨by omega, by omega⟩ ⟨by omega, by omega⟩ (fun q64 => ?_) (fun q64 => ?_)
            · refine jj_iconst h d_M_letter1_72 ?_
              refine jj_iret h he d_M_letter1_73 ?_
              refine ⟨?_, rfl⟩
              congr 2
              unfold ltv
              first | (rw [if_pos (by omega)]; done) | (rw [if_neg (by omega), if_pos (by omega)]; done) | (rw [if_neg (by omega), if_neg (by omega), if_pos (by omega)]; done) | (rw [if_neg (by omega), if_neg (by omega), if_neg (by omega), if_pos (by omega)]; done) | (rw [if_neg (by omega), if_neg (by omega), if_neg (by omega), if_neg (by omega), if_pos (by omega)]; done) | (rw [if_neg (by omega), if_neg (by omega), if_neg (by omega), if_neg (by omega), if_neg (by omega)]; done)
            · refine jj_bipush h d_M_letter1_67 (by decide) ?_
              refine jj_goto h 73 d_M_letter1_69 (by decide) ?_
              refine jj_iret h he d_M_letter1_73 ?_
              refine ⟨?_, rfl⟩
              congr 2
              unfold ltv
              first | (rw [if_pos (by omega)]; done) | (rw [if_neg (by omega), if_pos (by omega)]; done) | (rw [if_neg (by omega), if_neg (by omega), if_pos (by omega)]; done) | (rw [if_neg (by omega), if_neg (by omega), if_neg (by omega), if_pos (by omega)]; done) | (rw [if_neg (by omega), if_neg (by omega), if_neg (by omega), if_neg (by omega), if_pos (by omega)]; done) | (rw [if_neg (by omega), if_neg (by omega), if_neg (by omega), if_neg (by omega), if_neg (by omega)]; done)
          · refine jj_bipush h d_M_letter1_56 (by decide) ?_
            refine jj_goto h 73 d_M_letter1_58 (by decide) ?_
            refine jj_iret h he d_M_letter1_73 ?_
            refine ⟨?_, rfl⟩
            congr 2
            unfold ltv
            first | (rw [if_pos (by omega)]; done) | (rw [if_neg (by omega), if_pos (by omega)]; done) | (rw [if_neg (by omega), if_neg (by omega), if_pos (by omega)]; done) | (rw [if_neg (by omega), if_neg (by omega), if_neg (by omega), if_pos (by omega)]; done) | (rw [if_neg (by omega), if_neg (by omega), if_neg (by omega), if_neg (by omega), if_pos (by omega)]; done) | (rw [if_neg (by omega), if_neg (by omega), if_neg (by omega), if_neg (by omega), if_neg (by omega)]; done)
        · refine jj_iload_n h d_M_letter1_40 rfl ?_
          refine jj_bipush h d_M_letter1_41 (by decide) ?_
          refine jj_icmp_gt h 50 d_M_letter1_43 (by decide) ⟨by omega, by omega⟩ ⟨by omega, by omega⟩ (fun q43 => ?_) (fun q43 => ?_)
          · refine jj_iload_n h d_M_letter1_50 rfl ?_
            refine jj_bipush h d_M_letter1_51 (by decide) ?_
            refine jj_icmp_ne h 61 d_M_letter1_53 (by decide) ⟨by omega, by omega⟩ ⟨by omega, by omega⟩ (fun q53 => ?_) (fun q53 => ?_)
            · refine jj_iload_n h d_M_letter1_61 rfl ?_
              refine jj_bipush h d_M_letter1_62 (by decide) ?_
              refine jj_icmp_ne h 72 d_M_letter1_64 (by decide) ⟨by omega, by omega⟩ ⟨by omega, by omega⟩ (fun q64 => ?_) (fun q64 => ?_)
              · refine jj_iconst h d_M_letter1_72 ?_
                refine jj_iret h he d_M_letter1_73 ?_
                refine ⟨?_, rfl⟩
                congr 2
                unfold ltv
                first | (rw [if_pos (by omega)]; done) | (rw [if_neg (by omega), if_pos (by omega)]; done) | (rw [if_neg (by omega), if_neg (by omega), if_pos (by omega)]; done) | (rw [if_neg (by omega), if_neg (by omega), if_neg (by omega), if_pos (by omega)]; done) | (rw [if_neg (by omega), if_neg (by omega), if_neg (by omega), if_neg (by omega), if_pos (by omega)]; done) | (rw [if_neg (by omega), if_neg (by omega), if_neg (by omega), if_neg (by omega), if_neg (by omega)]; done)
              · refine jj_bipush h d_M_letter1_67 (by decide) ?_
                refine jj_goto h 73 d_M_letter1_69 (by decide) ?_
                refine jj_iret h he d_M_letter1_73 ?_
                refine ⟨?_, rfl⟩
                congr 2
                unfold ltv
                first | (rw [if_pos (by omega)]; done) | (rw [if_neg (by omega), if_pos (by omega)]; done) | (rw [if_neg (by omega), if_neg (by omega), if_pos (by omega)]; done) | (rw [if_neg (by omega), if_neg (by omega), if_neg (by omega), if_pos (by omega)]; done) | (rw [if_neg (by omega), if_neg (by omega), if_neg (by omega), if_neg (by omega), if_pos (by omega)]; done) | (rw [if_neg (by omega), if_neg (by omega), if_neg (by omega), if_neg (by omega), if_neg (by omega)]; done)
            · refine jj_bipush h d_M_letter1_56 (by decide) ?_
              refine jj_goto h 73 d_M_letter1_58 (by decide) ?_
              refine jj_iret h he d_M_letter1_73 ?_
              refine ⟨?_, rfl⟩
              congr 2
              unfold ltv
              first | (rw [if_pos (by omega)]; done) | (rw [if_neg (by omega), if_pos (by omega)]; done) | (rw [if_neg (by omega), if_neg (by omega), if_pos (by omega)]; done) | (rw [if_neg (by omega), if_neg (by omega), if_neg (by omega), if_pos (by omega)]; done) | (rw [if_neg (by omega), if_neg (by omega), if_neg (by omega), if_neg (by omega), if_pos (by omega)]; done) | (rw [if_neg (by omega), if_neg (by omega), if_neg (by omega), if_neg (by omega), if_neg (by omega)]; done)
          · refine jj_iload_n h d_M_letter1_46 rfl ?_
            refine jj_iconst h d_M_letter1_47 ?_
            refine jj_iadd h d_M_letter1_48 ?_
            refine jj_iret h he d_M_letter1_49 ?_
            refine ⟨?_, rfl⟩
            congr 2
            unfold ltv
            first | (rw [if_pos (by omega)]; done) | (rw [if_neg (by omega), if_pos (by omega)]; done) | (rw [if_neg (by omega), if_neg (by omega), if_pos (by omega)]; done) | (rw [if_neg (by omega), if_neg (by omega), if_neg (by omega), if_pos (by omega)]; done) | (rw [if_neg (by omega), if_neg (by omega), if_neg (by omega), if_neg (by omega), if_pos (by omega)]; done) | (rw [if_neg (by omega), if_neg (by omega), if_neg (by omega), if_neg (by omega), if_neg (by omega)]; done)
      · refine jj_iload_n h d_M_letter1_23 rfl ?_
        refine jj_bipush h d_M_letter1_24 (by decide) ?_
        refine jj_icmp_gt h 34 d_M_letter1_26 (by decide) ⟨by omega, by omega⟩ ⟨by omega, by omega⟩ (fun q26 => ?_) (fun q26 => ?_)
        · refine jj_iload_n h d_M_letter1_34 rfl ?_
          refine jj_bipush h d_M_letter1_35 (by decide) ?_
          refine jj_icmp_lt h 50 d_M_letter1_37 (by decide) ⟨by omega, by omega⟩ ⟨by omega, by omega⟩ (fun q37 => ?_) (fun q37 => ?_)
          · refine jj_iload_n h d_M_letter1_50 rfl ?_
            refine jj_bipush h d_M_letter1_51 (by decide) ?_
            refine jj_icmp_ne h 61 d_M_letter1_53 (by decide) ⟨by omega, by omega⟩ ⟨by omega, by omega⟩ (fun q53 => ?_) (fun q53 => ?_)
            · refine jj_iload_n h d_M_letter1_61 rfl ?_
              refine jj_bipush h d_M_letter1_62 (by decide) ?_
              refine jj_icmp_ne h 72 d_M_letter1_64 (by decide) ⟨by omega, by omega⟩ ⟨by omega, by omega⟩ (fun q64 => ?_) (fun q64 => ?_)
              · refine jj_iconst h d_M_letter1_72 ?_
                refine jj_iret h he d_M_letter1_73 ?_
                refine ⟨?_, rfl⟩
                congr 2
                unfold ltv
                first | (rw [if_pos (by omega)]; done) | (rw [if_neg (by omega), if_pos (by omega)]; done) | (rw [if_neg (by omega), if_neg (by omega), if_pos (by omega)]; done) | (rw [if_neg (by omega), if_neg (by omega), if_neg (by omega), if_pos (by omega)]; done) | (rw [if_neg (by omega), if_neg (by omega), if_neg (by omega), if_neg (by omega), if_pos (by omega)]; done) | (rw [if_neg (by omega), if_neg (by omega), if_neg (by omega), if_neg (by omega), if_neg (by omega)]; done)
              · refine jj_bipush h d_M_letter1_67 (by decide) ?_
                refine jj_goto h 73 d_M_letter1_69 (by decide) ?_
                refine jj_iret h he d_M_letter1_73 ?_
                refine ⟨?_, rfl⟩
                congr 2
                unfold ltv
                first | (rw [if_pos (by omega)]; done) | (rw [if_neg (by omega), if_pos (by omega)]; done) | (rw [if_neg (by omega), if_neg (by omega), if_pos (by omega)]; done) | (rw [if_neg (by omega), if_neg (by omega), if_neg (by omega), if_pos (by omega)]; done) | (rw [if_neg (by omega), if_neg (by omega), if_neg (by omega), if_neg (by omega), if_pos (by omega)]; done) | (rw [if_neg (by omega), if_neg (by omega), if_neg (by omega), if_neg (by omega), if_neg (by omega)]; done)
            · refine jj_bipush h d_M_letter1_56 (by decide) ?_
              refine jj_goto h 73 d_M_letter1_58 (by decide) ?_
              refine jj_iret h he d_M_letter1_73 ?_
              refine ⟨?_, rfl⟩
              congr 2
              unfold ltv
              first | (rw [if_pos (by omega)]; done) | (rw [if_neg (by omega), if_pos (by omega)]; done) | (rw [if_neg (by omega), if_neg (by omega), if_pos (by omega)]; done) | (rw [if_neg (by omega), if_neg (by omega), if_neg (by omega), if_pos (by omega)]; done) | (rw [if_neg (by omega), if_neg (by omega), if_neg (by omega), if_neg (by omega), if_pos (by omega)]; done) | (rw [if_neg (by omega), if_neg (by omega), if_neg (by omega), if_neg (by omega), if_neg (by omega)]; done)
          · refine jj_iload_n h d_M_letter1_40 rfl ?_
            refine jj_bipush h d_M_letter1_41 (by decide) ?_
            refine jj_icmp_gt h 50 d_M_letter1_43 (by decide) ⟨by omega, by omega⟩ ⟨by omega, by omega⟩ (fun q43 => ?_) (fun q43 => ?_)
            · refine jj_iload_n h d_M_letter1_50 rfl ?_
              refine jj_bipush h d_M_letter1_51 (by decide) ?_
              refine jj_icmp_ne h 61 d_M_letter1_53 (by decide) ⟨by omega, by omega⟩ ⟨by omega, by omega⟩ (fun q53 => ?_) (fun q53 => ?_)
              · refine jj_iload_n h d_M_letter1_61 rfl ?_
                refine jj_bipush h d_M_letter1_62 (by decide) ?_
                refine jj_icmp_ne h 72 d_M_letter1_64 (by decide) ⟨by omega, by omega⟩ ⟨by omega, by omega⟩ (fun q64 => ?_) (fun q64 => ?_)
                · refine jj_iconst h d_M_letter1_72 ?_
                  refine jj_iret h he d_M_letter1_73 ?_
                  refine ⟨?_, rfl⟩
                  congr 2
                  unfold ltv
                  first | (rw [if_pos (by omega)]; done) | (rw [if_neg (by omega), if_pos (by omega)]; done) | (rw [if_neg (by omega), if_neg (by omega), if_pos (by omega)]; done) | (rw [if_neg (by omega), if_neg (by omega), if_neg (by omega), if_pos (by omega)]; done) | (rw [if_neg (by omega), if_neg (by omega), if_neg (by omega), if_neg (by omega), if_pos (by omega)]; done) | (rw [if_neg (by omega), if_neg (by omega), if_neg (by omega), if_neg (by omega), if_neg (by omega)]; done)
                · refine jj_bipush h d_M_letter1_67 (by decide) ?_
                  refine jj_goto h 73 d_M_letter1_69 (by decide) ?_
                  refine jj_iret h he d_M_letter1_73 ?_
                  refine ⟨?_, rfl⟩
                  congr 2
                  unfold ltv
                  first | (rw [if_pos (by omega)]; done) | (rw [if_neg (by omega), if_pos (by omega)]; done) | (rw [if_neg (by omega), if_neg (by omega), if_pos (by omega)]; done) | (rw [if_neg (by omega), if_neg (by omega), if_neg (by omega), if_pos (by omega)]; done) | (rw [if_neg (by omega), if_neg (by omega), if_neg (by omega), if_neg (by omega), if_pos (by omega)]; done) | (rw [if_neg (by omega), if_neg (by omega), if_neg (by omega), if_neg (by omega), if_neg (by omega)]; done)
              · refine jj_bipush h d_M_letter1_56 (by decide) ?_
                refine jj_goto h 73 d_M_letter1_58 (by decide) ?_
                refine jj_iret h he d_M_letter1_73 ?_
                refine ⟨?_, rfl⟩
                congr 2
                unfold ltv
                first | (rw [if_pos (by omega)]; done) | (rw [if_neg (by omega), if_pos (by omega)]; done) | (rw [if_neg (by omega), if_neg (by omega), if_pos (by omega)]; done) | (rw [if_neg (by omega), if_neg (by omega), if_neg (by omega), if_pos (by omega)]; done) | (rw [if_neg (by omega), if_neg (by omega), if_neg (by omega), if_neg (by omega), if_pos (by omega)]; done) | (rw [if_neg (by omega), if_neg (by omega), if_neg (by omega), if_neg (by omega), if_neg (by omega)]; done)
            · refine jj_iload_n h d_M_letter1_46 rfl ?_
              refine jj_iconst h d_M_letter1_47 ?_
              refine jj_iadd h d_M_letter1_48 ?_
              refine jj_iret h he d_M_letter1_49 ?_
              refine ⟨?_, rfl⟩
              congr 2
              unfold ltv
              first | (rw [if_pos (by omega)]; done) | (rw [if_neg (by omega), if_pos (by omega)]; done) | (rw [if_neg (by omega), if_neg (by omega), if_pos (by omega)]; done) | (rw [if_neg (by omega), if_neg (by omega), if_neg (by omega), if_pos (by omega)]; done) | (rw [if_neg (by omega), if_neg (by omega), if_neg (by omega), if_neg (by omega), if_pos (by omega)]; done) | (rw [if_neg (by omega), if_neg (by omega), if_neg (by omega), if_neg (by omega), if_neg (by omega)]; done)
        · refine jj_iload_n h d_M_letter1_29 rfl ?_
          refine jj_bipush h d_M_letter1_30 (by decide) ?_
          refine jj_isub h d_M_letter1_32 ?_
          refine jj_iret h he d_M_letter1_33 ?_
          refine ⟨?_, rfl⟩
          congr 2
          unfold ltv
          first | (rw [if_pos (by omega)]; done) | (rw [if_neg (by omega), if_pos (by omega)]; done) | (rw [if_neg (by omega), if_neg (by omega), if_pos (by omega)]; done) | (rw [if_neg (by omega), if_neg (by omega), if_neg (by omega), if_pos (by omega)]; done) | (rw [if_neg (by omega), if_neg (by omega), if_neg (by omega), if_neg (by omega), if_pos (by omega)]; done) | (rw [if_neg (by omega), if_neg (by omega), if_neg (by omega), if_neg (by omega), if_neg (by omega)]; done)
    · refine jj_iload_n h d_M_letter1_12 rfl ?_
      refine jj_bipush h d_M_letter1_13 (by decide) ?_
      refine jj_isub h d_M_letter1_15 ?_
      refine jj_iret h he d_M_letter1_16 ?_
      refine ⟨?_, rfl⟩
      congr 2
      unfold ltv
      first | (rw [if_pos (by omega)]; done) | (rw [if_neg (by omega), if_pos (by omega)]; done) | (rw [if_neg (by omega), if_neg (by omega), if_pos (by omega)]; done) | (rw [if_neg (by omega), if_neg (by omega), if_neg (by omega), if_pos (by omega)]; done) | (rw [if_neg (by omega), if_neg (by omega), if_neg (by omega), if_neg (by omega), if_pos (by omega)]; done) | (rw [if_neg (by omega), if_neg (by omega), if_neg (by omega), if_neg (by omega), if_neg (by omega)]; done)
/-- the numbers that count, up to the first "=" -/
def dgs : List Int → List Int
  | [] => []
  | c :: t => if c = 61 then [] else if 0 ≤ ltv c then ltv c :: dgs t else dgs t
/-- four numbers are three bytes -/
def gr : List Int → List Int
  | a :: b :: c :: d :: t => (a * 4 + b / 16) :: (b % 16 * 16 + c / 4) :: (c % 4 * 64 + d) :: gr t
  | [a, b, c] => [a * 4 + b / 16, b % 16 * 16 + c / 4]
  | [a, b] => [a * 4 + b / 16]
  | _ => []
def b64d (L : List Int) : List Int := gr (dgs L)
/-- the bits of the numbers that wait -/
def bv_ : List Int → Int → Int
  | [], x => x
  | v :: t, x => bv_ t (x * 64 + v)
theorem cM_fromLetters {G : mt_G} {l : Launch} {mem : mt_M} {p e : Int} (h0 : 0 ≤ p) (h1 : p ≤ e) (h2 : e ≤ 320) (hb : by_ (mem 184) p e) (hT : 0 ≤ mem 182 9) (hro : mem 182 9 + (e - p) ≤ 1400) : CT G l y_M_fromLetters c_M_fromLetters 7 none 2 [vr G 182, vi p, vi e] mem (fun v m' => v = none ∧ ap_ mem (b64d (slc (mem 184) p e)) m' ∧ m' 182 9 ≤ mem 182 9 + (e - p)) := by
  refine CT.intro (by decide) rfl (Nat.le_of_ble_eq_true rfl) (fun X h he => ?_)
  generalize hD : b64d (slc (mem 184) p e) = D at *
  have fin : ∀ (m : mt_M) (out rem : List Int) (x q : Option Value) (k : Int), ap_ mem out m → rem.length < 4 → (∀ v ∈ rem, 0 ≤ v ∧ v ≤ 63) → D = out ++ gr rem → p ≤ k → k ≤ e → (out.length : Int) + rem.length ≤ k - p → JJ G X 0 0 m 104 [some (vr G 182), some (vi p), some (vi e), some (vi (bv_ rem 0)), some (vi rem.length), x, q] [] := by
    intro m out rem x q k ha hl hv hDe k1 k2 k3
    have ha1 := ha.1
    match rem, hl with
    | [], _ =>
      rw [show (([] : List Int).length : Int) = 0 from rfl]
      refine jj_iload h d_M_fromLetters_104 rfl ?_
      refine jj_iconst h d_M_fromLetters_106 ?_
      refine jj_icmp_ne h 133 d_M_fromLetters_107 (by decide) ⟨by decide, by decide⟩ ⟨by decide, by decide⟩ (fun _ => ?_) (fun q107 => absurd q107 ((by decide)))
      refine jj_iload h d_M_fromLetters_133 rfl ?_
      refine jj_iconst h d_M_fromLetters_135 ?_
      refine jj_icmp_ne h 150 d_M_fromLetters_136 (by decide) ⟨by decide, by decide⟩ ⟨by decide, by decide⟩ (fun _ => ?_) (fun q136 => absurd q136 ((by decide)))
      refine jj_vret h he d_M_fromLetters_150 ?_
      exact ⟨rfl, by rw [hDe, show gr [] = [] from rfl, List.append_nil]; exact ha, by omega⟩
    | [a], _ =>
      rw [show (([a] : List Int).length : Int) = 1 from rfl]
      refine jj_iload h d_M_fromLetters_104 rfl ?_
      refine jj_iconst h d_M_fromLetters_106 ?_
      refine jj_icmp_ne h 133 d_M_fromLetters_107 (by decide) ⟨by decide, by decide⟩ ⟨by decide, by decide⟩ (fun _ => ?_) (fun q107 => absurd q107 ((by decide)))
      refine jj_iload h d_M_fromLetters_133 rfl ?_
      refine jj_iconst h d_M_fromLetters_135 ?_
      refine jj_icmp_ne h 150 d_M_fromLetters_136 (by decide) ⟨by decide, by decide⟩ ⟨by decide, by decide⟩ (fun _ => ?_) (fun q136 => absurd q136 ((by decide)))
      refine jj_vret h he d_M_fromLetters_150 ?_
      exact ⟨rfl, by rw [hDe, show gr [a] = [] from rfl, List.append_nil]; exact ha, by omega⟩
    | [a, b], _ =>
      rw [show (([a, b] : List Int).length : Int) = 2 from rfl]
      have ha9 := hv a (by simp)
      have hb9 := hv b (by simp)
      have e1 : iand_ (ishr_ (bv_ [a, b] 0) 4) 255 = a * 4 + b / 16 := by
        simp only [bv_]
        rw [ishr_k 4 (P := 16) (by decide) (by decide) (by omega) (by omega), iand_k 8 (P := 256) (by decide) (by decide) (by omega) (by omega)]
        omega
      simp only [List.length_cons, List.length_nil] at k3
      refine jj_iload h d_M_fromLetters_104 rfl ?_
      refine jj_iconst h d_M_fromLetters_106 ?_
      refine jj_icmp_ne h 133 d_M_fromLetters_107 (by decide) ⟨by decide, by decide⟩ ⟨by decide, by decide⟩ (fun _ => ?_) (fun q107 => absurd q107 ((by decide)))
      refine jj_iload h d_M_fromLetters_133 rfl ?_
      refine jj_iconst h d_M_fromLetters_135 ?_
      refine jj_icmp_ne h 150 d_M_fromLetters_136 (by decide) ⟨by decide, by decide⟩ ⟨by decide, by decide⟩ (fun q136 => absurd ((by decide)) q136) (fun _ => ?_)
      refine jj_aload_n h d_M_fromLetters_139 rfl ⟨_, rfl⟩ ?_
      refine jj_iload_n h d_M_fromLetters_140 rfl ?_
      refine jj_iconst h d_M_fromLetters_141 ?_
      refine jj_ishr h d_M_fromLetters_142 ?_
      refine jj_sipush h d_M_fromLetters_143 (by decide) ?_
      refine jj_iand h d_M_fromLetters_146 ?_
      rw [e1]
      refine jj_callV h (cM_keep (by omega) (by omega)) cv_M_66 (ro_of he (by decide) (by decide)) rfl rfl (by decide) rfl rfl rfl (Nat.le_of_ble_eq_true rfl) d_M_fromLetters_147 (fun v m147 hv => ?_)
      obtain ⟨rfl, rfl⟩ := hv
      refine jj_vret h he d_M_fromLetters_150 ?_
      refine ⟨rfl, by rw [hDe, gr]; exact ha.k1 _, ?_⟩
      rw [k1_at, if_pos (by decide)]; omega
    | [a, b, c], _ =>
      rw [show (([a, b, c] : List Int).length : Int) = 3 from rfl]
      have ha9 := hv a (by simp)
      have hb9 := hv b (by simp)
      have hc9 := hv c (by simp)
      have e1 : iand_ (ishr_ (bv_ [a, b, c] 0) 10) 255 = a * 4 + b / 16 := by
        simp only [bv_]
        rw [ishr_k 10 (P := 1024) (by decide) (by decide) (by omega) (by omega), iand_k 8 (P := 256) (by decide) (by decide) (by omega) (by omega)]
        omega
      have e2 : iand_ (ishr_ (bv_ [a, b, c] 0) 2) 255 = b % 16 * 16 + c / 4 := by
        simp only [bv_]
        rw [ishr_k 2 (P := 4) (by decide) (by decide) (by omega) (by omega), iand_k 8 (P := 256) (by decide) (by decide) (by omega) (by omega)]
        omega
      simp only [List.length_cons, List.length_nil] at k3
      refine jj_iload h d_M_fromLetters_104 rfl ?_
      refine jj_iconst h d_M_fromLetters_106 ?_
      refine jj_icmp_ne h 133 d_M_fromLetters_107 (by decide) ⟨by decide, by decide⟩ ⟨by decide, by decide⟩ (fun q107 => absurd ((by decide)) q107) (fun _ => ?_)
      refine jj_aload_n h d_M_fromLetters_110 rfl ⟨_, rfl⟩ ?_
      refine jj_iload_n h d_M_fromLetters_111 rfl ?_
      refine jj_bipush h d_M_fromLetters_112 (by decide) ?_
      refine jj_ishr h d_M_fromLetters_114 ?_
      refine jj_sipush h d_M_fromLetters_115 (by decide) ?_
      refine jj_iand h d_M_fromLetters_118 ?_
      rw [e1]
      refine jj_callV h (cM_keep (by omega) (by omega)) cv_M_66 (ro_of he (by decide) (by decide)) rfl rfl (by decide) rfl rfl rfl (Nat.le_of_ble_eq_true rfl) d_M_fromLetters_119 (fun v m119 hv => ?_)
      obtain ⟨rfl, rfl⟩ := hv
      refine jj_aload_n h d_M_fromLetters_122 rfl ⟨_, rfl⟩ ?_
      refine jj_iload_n h d_M_fromLetters_123 rfl ?_
      refine jj_iconst h d_M_fromLetters_124 ?_
      refine jj_ishr h d_M_fromLetters_125 ?_
      refine jj_sipush h d_M_fromLetters_126 (by decide) ?_
      refine jj_iand h d_M_fromLetters_129 ?_
      rw [e2]
      refine jj_callV h (cM_keep (by rw [k1_at, if_pos (by decide)]; omega) (by rw [k1_at, if_pos (by decide)]; omega)) cv_M_66 (ro_of he (by decide) (by decide)) rfl rfl (by decide) rfl rfl rfl (Nat.le_of_ble_eq_true rfl) d_M_fromLetters_130 (fun v m130 hv => ?_)
      obtain ⟨rfl, rfl⟩ := hv
      refine jj_iload h d_M_fromLetters_133 rfl ?_
      refine jj_iconst h d_M_fromLetters_135 ?_
      refine jj_icmp_ne h 150 d_M_fromLetters_136 (by decide) ⟨by decide, by decide⟩ ⟨by decide, by decide⟩ (fun _ => ?_) (fun q136 => absurd q136 ((by decide)))
      refine jj_vret h he d_M_fromLetters_150 ?_
      refine ⟨rfl, by rw [hDe, gr]; have := (ha.k1 (a * 4 + b / 16)).k1 (b % 16 * 16 + c / 4); rw [List.append_assoc] at this; exact this, ?_⟩
      rw [k1_at, if_pos (by decide), k1_at, if_pos (by decide)]; omega
  have loop : ∀ (n : Nat) (q : Int) (m : mt_M) (out rem : List Int) (x : Option Value), (e - q).toNat = n → p ≤ q → q ≤ e → ap_ mem out m → rem.length < 4 → (∀ v ∈ rem, 0 ≤ v ∧ v ≤ 63) → D = out ++ gr (rem ++ dgs (slc (mem 184) q e)) → (out.length : Int) + rem.length ≤ q - p → JJ G X 0 0 m 8 [some (vr G 182), some (vi p), some (vi e), some (vi (bv_ rem 0)), some (vi rem.length), some (vi q), x] [] := by
    intro n
    induction n with
    | zero =>
      intro q m out rem x hn hp hq ha hl hv hDe hk
      rw [slc_nil (by omega), dgs, List.append_nil] at hDe
      refine jj_iload h d_M_fromLetters_8 rfl ?_
      refine jj_iload_n h d_M_fromLetters_10 rfl ?_
      refine jj_icmp_ge h 104 d_M_fromLetters_11 (by decide) ⟨by omega, by omega⟩ ⟨by omega, by omega⟩ (fun _ => ?_) (fun q11 => absurd (by omega) q11)
      exact fin m out rem _ _ q ha hl hv hDe hp hq hk
    | succ n ih =>
      intro q m out rem x hn hp hq ha hl hv hDe hk
      have hq3 := hb q hp (by omega)
      have hs : m 184 = mem 184 := ha.row (by decide) (by decide)
      have ha1 := ha.1
      have hlb := ltv_b (mem 184 q)
      have step : ∀ (v : Int) (x : Option Value), 0 ≤ v → v ≤ 63 → D = out ++ gr (rem ++ v :: dgs (slc (mem 184) (q + 1) e)) → JJ G X 0 0 m 43 [some (vr G 182), some (vi p), some (vi e), some (vi (bv_ rem 0)), some (vi rem.length), some (vi q), some (vi v)] [] := by
        intro v x v0 v1 hDv
        match rem, hl with
        | [], _ =>
          rw [show (([] : List Int).length : Int) = 0 from rfl]
          have e1 : ior_ (ishl_ (bv_ [] 0) 6) v = bv_ [v] 0 := by
            simp only [bv_]
            rw [ishl_k 6 (P := 64) (by decide) (by decide) (by omega) (by omega), ior_k 6 (P := 64) (by decide) (by omega) (by omega) (by omega) (by omega)]
            try omega
          simp only [List.length_cons, List.length_nil] at hk
          refine jj_iload_n h d_M_fromLetters_43 rfl ?_
          refine jj_bipush h d_M_fromLetters_44 (by decide) ?_
          refine jj_ishl h d_M_fromLetters_46 ?_
          refine jj_iload h d_M_fromLetters_47 rfl ?_
          refine jj_ior h d_M_fromLetters_49 ?_
          rw [e1]
          refine jj_istore_n h d_M_fromLetters_50 (Nat.le_of_ble_eq_true rfl) rfl ?_
          refine jj_iinc h d_M_fromLetters_51 rfl rfl ?_
          refine jj_iload h d_M_fromLetters_54 rfl ?_
          refine jj_iconst h d_M_fromLetters_56 ?_
          refine jj_icmp_ne h 98 d_M_fromLetters_57 (by decide) ⟨by decide, by decide⟩ ⟨by decide, by decide⟩ (fun _ => ?_) (fun q57 => absurd q57 ((by decide)))
          refine jj_iinc h d_M_fromLetters_98 rfl rfl ?_
          refine jj_goto h 8 d_M_fromLetters_101 (by decide) ?_
          exact ih (q + 1) m out [v] _ (by omega) (by omega) (by omega) ha (Nat.le_of_ble_eq_true rfl) (by simp; omega) hDv (by simp only [List.length_cons, List.length_nil]; omega)
        | [a], _ =>
          rw [show (([a] : List Int).length : Int) = 1 from rfl]
          have ha9 := hv a (by simp)
          have e1 : ior_ (ishl_ (bv_ [a] 0) 6) v = bv_ [a, v] 0 := by
            simp only [bv_]
            rw [ishl_k 6 (P := 64) (by decide) (by decide) (by omega) (by omega), ior_k 6 (P := 64) (by decide) (by omega) (by omega) (by omega) (by omega)]
            try omega
          simp only [List.length_cons, List.length_nil] at hk
          refine jj_iload_n h d_M_fromLetters_43 rfl ?_
          refine jj_bipush h d_M_fromLetters_44 (by decide) ?_
          refine jj_ishl h d_M_fromLetters_46 ?_
          refine jj_iload h d_M_fromLetters_47 rfl ?_
          refine jj_ior h d_M_fromLetters_49 ?_
          rw [e1]
          refine jj_istore_n h d_M_fromLetters_50 (Nat.le_of_ble_eq_true rfl) rfl ?_
          refine jj_iinc h d_M_fromLetters_51 rfl rfl ?_
          refine jj_iload h d_M_fromLetters_54 rfl ?_
          refine jj_iconst h d_M_fromLetters_56 ?_
          refine jj_icmp_ne h 98 d_M_fromLetters_57 (by decide) ⟨by decide, by decide⟩ ⟨by decide, by decide⟩ (fun _ => ?_) (fun q57 => absurd q57 ((by decide)))
          refine jj_iinc h d_M_fromLetters_98 rfl rfl ?_
          refine jj_goto h 8 d_M_fromLetters_101 (by decide) ?_
          exact ih (q + 1) m out [a, v] _ (by omega) (by omega) (by omega) ha (Nat.le_of_ble_eq_true rfl) (by simp; omega) hDv (by simp only [List.length_cons, List.length_nil]; omega)
        | [a, b], _ =>
          rw [show (([a, b] : List Int).length : Int) = 2 from rfl]
          have ha9 := hv a (by simp)
          have hb9 := hv b (by simp)
          have e1 : ior_ (ishl_ (bv_ [a, b] 0) 6) v = bv_ [a, b, v] 0 := by
            simp only [bv_]
            rw [ishl_k 6 (P := 64) (by decide) (by decide) (by omega) (by omega), ior_k 6 (P := 64) (by decide) (by omega) (by omega) (by omega) (by omega)]
            try omega
          simp only [List.length_cons, List.length_nil] at hk
          refine jj_iload_n h d_M_fromLetters_43 rfl ?_
          refine jj_bipush h d_M_fromLetters_44 (by decide) ?_
          refine jj_ishl h d_M_fromLetters_46 ?_
          refine jj_iload h d_M_fromLetters_47 rfl ?_
          refine jj_ior h d_M_fromLetters_49 ?_
          rw [e1]
          refine jj_istore_n h d_M_fromLetters_50 (Nat.le_of_ble_eq_true rfl) rfl ?_
          refine jj_iinc h d_M_fromLetters_51 rfl rfl ?_
          refine jj_iload h d_M_fromLetters_54 rfl ?_
          refine jj_iconst h d_M_fromLetters_56 ?_
          refine jj_icmp_ne h 98 d_M_fromLetters_57 (by decide) ⟨by decide, by decide⟩ ⟨by decide, by decide⟩ (fun _ => ?_) (fun q57 => absurd q57 ((by decide)))
          refine jj_iinc h d_M_fromLetters_98 rfl rfl ?_
          refine jj_goto h 8 d_M_fromLetters_101 (by decide) ?_
          exact ih (q + 1) m out [a, b, v] _ (by omega) (by omega) (by omega) ha (Nat.le_of_ble_eq_true rfl) (by simp; omega) hDv (by simp only [List.length_cons, List.length_nil]; omega)
        | [a, b, c], _ =>
          rw [show (([a, b, c] : List Int).length : Int) = 3 from rfl]
          have ha9 := hv a (by simp)
          have hb9 := hv b (by simp)
          have hc9 := hv c (by simp)
          have e1 : ior_ (ishl_ (bv_ [a, b, c] 0) 6) v = ((a * 64 + b) * 64 + c) * 64 + v := by
            simp only [bv_]
            rw [ishl_k 6 (P := 64) (by decide) (by decide) (by omega) (by omega), ior_k 6 (P := 64) (by decide) (by omega) (by omega) (by omega) (by omega)]
            omega
          have e2 : iand_ (ishr_ (((a * 64 + b) * 64 + c) * 64 + v) 16) 255 = a * 4 + b / 16 := by
            rw [ishr_k 16 (P := 65536) (by decide) (by decide) (by omega) (by omega), iand_k 8 (P := 256) (by decide) (by decide) (by omega) (by omega)]
            omega
          have e3 : iand_ (ishr_ (((a * 64 + b) * 64 + c) * 64 + v) 8) 255 = b % 16 * 16 + c / 4 := by
            rw [ishr_k 8 (P := 256) (by decide) (by decide) (by omega) (by omega), iand_k 8 (P := 256) (by decide) (by decide) (by omega) (by omega)]
            omega
          have e4 : iand_ (((a * 64 + b) * 64 + c) * 64 + v) 255 = c % 4 * 64 + v := by
            rw [iand_k 8 (P := 256) (by decide) (by decide) (by omega) (by omega)]
            omega
          simp only [List.length_cons, List.length_nil] at hk
          refine jj_iload_n h d_M_fromLetters_43 rfl ?_
          refine jj_bipush h d_M_fromLetters_44 (by decide) ?_
          refine jj_ishl h d_M_fromLetters_46 ?_
          refine jj_iload h d_M_fromLetters_47 rfl ?_
          refine jj_ior h d_M_fromLetters_49 ?_
          rw [e1]
          refine jj_istore_n h d_M_fromLetters_50 (Nat.le_of_ble_eq_true rfl) rfl ?_
          refine jj_iinc h d_M_fromLetters_51 rfl rfl ?_
          refine jj_iload h d_M_fromLetters_54 rfl ?_
          refine jj_iconst h d_M_fromLetters_56 ?_
          refine jj_icmp_ne h 98 d_M_fromLetters_57 (by decide) ⟨by decide, by decide⟩ ⟨by decide, by decide⟩ (fun q57 => absurd ((by decide)) q57) (fun _ => ?_)
          refine jj_aload_n h d_M_fromLetters_60 rfl ⟨_, rfl⟩ ?_
          refine jj_iload_n h d_M_fromLetters_61 rfl ?_
          refine jj_bipush h d_M_fromLetters_62 (by decide) ?_
          refine jj_ishr h d_M_fromLetters_64 ?_
          refine jj_sipush h d_M_fromLetters_65 (by decide) ?_
          refine jj_iand h d_M_fromLetters_68 ?_
          rw [e2]
          refine jj_callV h (cM_keep (by omega) (by omega)) cv_M_66 (ro_of he (by decide) (by decide)) rfl rfl (by decide) rfl rfl rfl (Nat.le_of_ble_eq_true rfl) d_M_fromLetters_69 (fun v m69 hv => ?_)
          obtain ⟨rfl, rfl⟩ := hv
          refine jj_aload_n h d_M_fromLetters_72 rfl ⟨_, rfl⟩ ?_
          refine jj_iload_n h d_M_fromLetters_73 rfl ?_
          refine jj_bipush h d_M_fromLetters_74 (by decide) ?_
          refine jj_ishr h d_M_fromLetters_76 ?_
          refine jj_sipush h d_M_fromLetters_77 (by decide) ?_
          refine jj_iand h d_M_fromLetters_80 ?_
          rw [e3]
          refine jj_callV h (cM_keep (by rw [k1_at, if_pos (by decide)]; omega) (by rw [k1_at, if_pos (by decide)]; omega)) cv_M_66 (ro_of he (by decide) (by decide)) rfl rfl (by decide) rfl rfl rfl (Nat.le_of_ble_eq_true rfl) d_M_fromLetters_81 (fun v m81 hv => ?_)
          obtain ⟨rfl, rfl⟩ := hv
          refine jj_aload_n h d_M_fromLetters_84 rfl ⟨_, rfl⟩ ?_
          refine jj_iload_n h d_M_fromLetters_85 rfl ?_
          refine jj_sipush h d_M_fromLetters_86 (by decide) ?_
          refine jj_iand h d_M_fromLetters_89 ?_
          rw [e4]
          refine jj_callV h (cM_keep (by rw [k1_at, if_pos (by decide), k1_at, if_pos (by decide)]; omega) (by rw [k1_at, if_pos (by decide), k1_at, if_pos (by decide)]; omega)) cv_M_66 (ro_of he (by decide) (by decide)) rfl rfl (by decide) rfl rfl rfl (Nat.le_of_ble_eq_true rfl) d_M_fromLetters_90 (fun v m90 hv => ?_)
          obtain ⟨rfl, rfl⟩ := hv
          refine jj_iconst h d_M_fromLetters_93 ?_
          refine jj_istore_n h d_M_fromLetters_94 (Nat.le_of_ble_eq_true rfl) rfl ?_
          refine jj_iconst h d_M_fromLetters_95 ?_
          refine jj_istore h d_M_fromLetters_96 (Nat.le_of_ble_eq_true rfl) rfl ?_
          refine jj_iinc h d_M_fromLetters_98 rfl rfl ?_
          refine jj_goto h 8 d_M_fromLetters_101 (by decide) ?_
          have e5 := (((ha.k1 (a * 4 + b / 16)).k1 (b % 16 * 16 + c / 4)).k1 (c % 4 * 64 + v))
          rw [List.append_assoc, List.append_assoc] at e5
          refine ih (q + 1) _ (out ++ [a * 4 + b / 16, b % 16 * 16 + c / 4, c % 4 * 64 + v]) [] _ (by omega) (by omega) (by omega) e5 (by decide) (by simp) (by rw [hDv, List.append_assoc]; rfl) ?_
          simp only [List.length_append, List.length_cons, List.length_nil]; omega
      rw [slc_cons (by omega)] at hDe
      refine jj_iload h d_M_fromLetters_8 rfl ?_
      refine jj_iload_n h d_M_fromLetters_10 rfl ?_
      refine jj_icmp_ge h 104 d_M_fromLetters_11 (by decide) ⟨by omega, by omega⟩ ⟨by omega, by omega⟩ (fun q11 => absurd q11 (by omega)) (fun _ => ?_)
      refine jj_aload_n h d_M_fromLetters_14 rfl ⟨_, rfl⟩ ?_
      refine jj_g_M_src h  fl_M_13 d_M_fromLetters_15 ?_
      try simp only [hs]
      refine jj_iload h d_M_fromLetters_18 rfl ?_
      refine jj_iaload (N := 320) h (by decide) rfl (by decide) (by omega) (by omega) d_M_fromLetters_20 ?_
      try simp only [hs]
      refine jj_bipush h d_M_fromLetters_21 (by decide) ?_
      refine jj_icmp_eq h 104 d_M_fromLetters_23 (by decide) ⟨by omega, by omega⟩ ⟨by omega, by omega⟩ (fun q23 => ?_) (fun q23 => ?_)
      · rw [dgs, if_pos q23, List.append_nil] at hDe
        exact fin m out rem _ _ q ha hl hv hDe hp hq hk
      · refine jj_aload_n h d_M_fromLetters_26 rfl ⟨_, rfl⟩ ?_
        refine jj_g_M_src h  fl_M_13 d_M_fromLetters_27 ?_
        try simp only [hs]
        refine jj_iload h d_M_fromLetters_30 rfl ?_
        refine jj_iaload (N := 320) h (by decide) rfl (by decide) (by omega) (by omega) d_M_fromLetters_32 ?_
        try simp only [hs]
        refine jj_callS h (cM_letter1 ⟨by omega, by omega⟩) cv_M_178 (ro_of he (by decide) (by decide)) rfl rfl rfl (Nat.le_of_ble_eq_true rfl) d_M_fromLetters_33 (fun v m33 hv => ?_)
        obtain ⟨rfl, rfl⟩ := hv
        refine jj_istore h d_M_fromLetters_36 (Nat.le_of_ble_eq_true rfl) rfl ?_
        refine jj_iload h d_M_fromLetters_38 rfl ?_
        refine jj_if_lt h 98 d_M_fromLetters_40 (by decide) ⟨by omega, by omega⟩ (fun q40 => ?_) (fun q40 => ?_)
        · rw [dgs, if_neg q23, if_neg (by omega)] at hDe
          refine jj_iinc h d_M_fromLetters_98 rfl rfl ?_
          refine jj_goto h 8 d_M_fromLetters_101 (by decide) ?_
          exact ih (q + 1) m out rem _ (by omega) (by omega) (by omega) ha hl hv hDe (by omega)
        · rw [dgs, if_neg q23, if_pos (by omega)] at hDe
          exact step _ none (by omega) (by omega) hDe
  refine jj_iconst h d_M_fromLetters_0 ?_
  refine jj_istore_n h d_M_fromLetters_1 (Nat.le_of_ble_eq_true rfl) rfl ?_
  refine jj_iconst h d_M_fromLetters_2 ?_
  refine jj_istore h d_M_fromLetters_3 (Nat.le_of_ble_eq_true rfl) rfl ?_
  refine jj_iload_n h d_M_fromLetters_5 rfl ?_
  refine jj_istore h d_M_fromLetters_6 (Nat.le_of_ble_eq_true rfl) rfl ?_
  exact loop _ p mem [] [] _ rfl (by omega) h1 ap_.rf (by decide) (by simp) (by rw [← hD]; rfl) (by simp)
