/-! The class: rows of bytes. -/
section JJA
variable {G : mt_G} {X : mt_X} {cc : ByteArray} {own : String} {nL : Nat} {pc k n : Nat} {mem : mt_M} {lo : List (Option Value)} {st : List Value}
theorem jj_al (h : OK G X cc own nL) {r : Nat} (hr : 9 ≤ r ∧ r ≤ 16) (d : decode cc pc = .ok (.arraylength, 1)) (kk : JJ G X k n mem (pc + 1) lo (vi (ln_ r : Int) :: st)) : JJ G X k n mem pc lo (vr G r :: st) :=
  jj_alen (t0 := 0) h (by unfold mt_N; omega) (ce_A hr) rfl d kk
end JJA
theorem ln_b {r : Nat} (h : 1 ≤ r ∧ r ≤ 8) : ln_ (r + 8) ≤ 700 ∧ 320 ≤ ln_ (r + 8) := by
  rw [ln_A (by omega)]; split <;> decide
theorem cB_empty {G : mt_G} {l : Launch} {mem : mt_M} {r : Nat} (hr : 1 ≤ r ∧ r ≤ 8) : CT G l y_B_empty c_B_empty 1 none 1 [vr G r] mem (fun v m' => v = none ∧ st_ (st_ mem r 1 0) r 2 0 = m') := by
  refine CT.intro (by decide) rfl (Nat.le_of_ble_eq_true rfl) (fun X h he => ?_)
  refine jj_aload_n h d_B_empty_0 rfl ⟨_, rfl⟩ ?_
  refine jj_iconst h d_B_empty_1 ?_
  refine jj_p_B_size h (by omega) fl_B_15 d_B_empty_2 ?_
  refine jj_aload_n h d_B_empty_5 rfl ⟨_, rfl⟩ ?_
  refine jj_iconst h d_B_empty_6 ?_
  refine jj_p_B_spilled h (by omega) fl_B_19 (by omega) d_B_empty_7 ?_
  refine jj_vret h he d_B_empty_10 ?_
  exact ⟨rfl, rfl⟩
def bp_ (m : mt_M) (r : Nat) (c : Int) : mt_M := if m r 1 < ln_ (r + 8) then st_ (st_ m (r + 8) (m r 1) c) r 1 (m r 1 + 1) else st_ m r 2 1
theorem cB_put {G : mt_G} {l : Launch} {mem : mt_M} {r : Nat} {c : Int} (hr : 1 ≤ r ∧ r ≤ 8) (h0 : 0 ≤ mem r 1) (h1 : mem r 1 ≤ ln_ (r + 8)) : CT G l y_B_put c_B_put 2 none 1 [vr G r, vi c] mem (fun v m' => v = none ∧ bp_ mem r c = m') := by
  have hb := ln_b hr
  refine CT.intro (by decide) rfl (Nat.le_of_ble_eq_true rfl) (fun X h he => ?_)
  have hs : st_ mem (r + 8) (mem r 1) c r 1 = mem r 1 := st_ne (Or.inl (by omega))
  refine jj_aload_n h d_B_put_0 rfl ⟨_, rfl⟩ ?_
  refine jj_g_B_size h (by omega) fl_B_15 d_B_put_1 ?_
  try simp only [hs]
  refine jj_if_lt h 19 d_B_put_4 (by decide) ⟨by omega, by omega⟩ (fun q4 => absurd q4 (by omega)) (fun _ => ?_)
  refine jj_aload_n h d_B_put_7 rfl ⟨_, rfl⟩ ?_
  refine jj_g_B_size h (by omega) fl_B_15 d_B_put_8 ?_
  try simp only [hs]
  refine jj_aload_n h d_B_put_11 rfl ⟨_, rfl⟩ ?_
  refine jj_g_B_cells h (by omega) fl_B_9 d_B_put_12 ?_
  try simp only [hs]
  refine jj_al h (by omega) d_B_put_15 ?_
  refine jj_icmp_lt h 25 d_B_put_16 (by decide) ⟨by omega, by omega⟩ ⟨by omega, by omega⟩ (fun q16 => ?_) (fun q16 => ?_)
  · refine jj_aload_n h d_B_put_25 rfl ⟨_, rfl⟩ ?_
    refine jj_g_B_cells h (by omega) fl_B_9 d_B_put_26 ?_
    try simp only [hs]
    refine jj_aload_n h d_B_put_29 rfl ⟨_, rfl⟩ ?_
    refine jj_g_B_size h (by omega) fl_B_15 d_B_put_30 ?_
    try simp only [hs]
    refine jj_iload_n h d_B_put_33 rfl ?_
    refine jj_iastore h (by unfold mt_N; omega) (fun _ => ce_A (by omega)) (by omega) (by omega) (by omega) d_B_put_34 ?_
    refine jj_aload_n h d_B_put_35 rfl ⟨_, rfl⟩ ?_
    refine jj_dup h d_B_put_36 rfl ?_
    refine jj_g_B_size h (by omega) fl_B_15 d_B_put_37 ?_
    try simp only [hs]
    refine jj_iconst h d_B_put_40 ?_
    refine jj_iadd h d_B_put_41 ?_
    refine jj_p_B_size h (by omega) fl_B_15 d_B_put_42 ?_
    refine jj_vret h he d_B_put_45 ?_
    exact ⟨rfl, by unfold bp_; rw [if_pos (by omega)]⟩
  · refine jj_aload_n h d_B_put_19 rfl ⟨_, rfl⟩ ?_
    refine jj_iconst h d_B_put_20 ?_
    refine jj_p_B_spilled h (by omega) fl_B_19 (by omega) d_B_put_21 ?_
    refine jj_vret h he d_B_put_24 ?_
    exact ⟨rfl, by unfold bp_; rw [if_neg (by omega)]⟩
def bA_ (m : mt_M) (r : Nat) (i : Int) : Int := if 0 ≤ i ∧ i < m r 1 then m (r + 8) i else -1
theorem cB_at {G : mt_G} {l : Launch} {mem : mt_M} {r : Nat} {i : Int} (hr : 1 ≤ r ∧ r ≤ 8) (h0 : 0 ≤ mem r 1) (h1 : mem r 1 ≤ ln_ (r + 8)) (hi : r32 i) : CT G l y_B_at c_B_at 2 (some .int) 1 [vr G r, vi i] mem (fun v m' => v = some (vi (bA_ mem r i)) ∧ mem = m') := by
  have hb := ln_b hr
  obtain ⟨i1, i2⟩ := hi
  refine CT.intro (by decide) rfl (Nat.le_of_ble_eq_true rfl) (fun X h he => ?_)
  refine jj_iload_n h d_B_at_0 rfl ?_
  refine jj_if_lt h 30 d_B_at_1 (by decide) ⟨by omega, by omega⟩ (fun q1 => ?_) (fun q1 => ?_)
  · refine jj_iconst h d_B_at_30 ?_
    refine jj_iret h he d_B_at_31 ?_
    exact ⟨by unfold bA_; rw [if_neg (by omega)], rfl⟩
  · refine jj_iload_n h d_B_at_4 rfl ?_
    refine jj_aload_n h d_B_at_5 rfl ⟨_, rfl⟩ ?_
    refine jj_g_B_size h (by omega) fl_B_15 d_B_at_6 ?_
    refine jj_icmp_ge h 30 d_B_at_9 (by decide) ⟨by omega, by omega⟩ ⟨by omega, by omega⟩ (fun q9 => ?_) (fun q9 => ?_)
    · refine jj_iconst h d_B_at_30 ?_
      refine jj_iret h he d_B_at_31 ?_
      exact ⟨by unfold bA_; rw [if_neg (by omega)], rfl⟩
    · refine jj_iload_n h d_B_at_12 rfl ?_
      refine jj_aload_n h d_B_at_13 rfl ⟨_, rfl⟩ ?_
      refine jj_g_B_cells h (by omega) fl_B_9 d_B_at_14 ?_
      refine jj_al h (by omega) d_B_at_17 ?_
      refine jj_icmp_ge h 30 d_B_at_18 (by decide) ⟨by omega, by omega⟩ ⟨by omega, by omega⟩ (fun q18 => absurd q18 (by omega)) (fun _ => ?_)
      refine jj_aload_n h d_B_at_21 rfl ⟨_, rfl⟩ ?_
      refine jj_g_B_cells h (by omega) fl_B_9 d_B_at_22 ?_
      refine jj_iload_n h d_B_at_25 rfl ?_
      refine jj_iaload h (by unfold mt_N; omega) (ce_A (by omega)) (by omega) (by omega) (by omega) d_B_at_26 ?_
      refine jj_goto h 31 d_B_at_27 (by decide) ?_
      refine jj_iret h he d_B_at_31 ?_
      exact ⟨by unfold bA_; rw [if_pos (by omega)], rfl⟩
